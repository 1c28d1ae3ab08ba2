import java.util.ArrayList;

/**
 * A start of services: units with needs and wishes, started tick by tick within a bound.
 *
 * A set of units is an int whose bit u stands for the unit u.
 */
public final class BootStage {
    public static final int NONE = -1;
    public static final int WAITING = 0, STARTING = 1, READY = 2, FAILED = 3, HELD = 4;

    private static final int MOST_UNITS = 20;
    private static final int MOST_TIME = 100;
    private static final int MOST_RETRIES = 3;
    private static final int MOST_WEIGHT = 100;
    private static final int MOST_FAULTS = 10;
    private static final int MOST_TICKS = 200;
    private static final int FIRST_LEARNED = 10;
    private static final int FULL_BAR = 1000;

    private final Unit[] rows = new Unit[MOST_UNITS];
    private int count = 0;
    /** In the order in which they were told first. */
    private final ArrayList<Wish> wishes = new ArrayList<Wish>();

    private boolean isGoingOn = false;
    private int bound = 0;
    private int total = 0;
    private int reachedBar = 0;

    public BootStage() {
        // All rows stand from the first, so that none is ever null.
        for (int number = 0; number < MOST_UNITS; number++) {
            rows[number] = new Unit(number);
        }
    }

    // ---- units

    public int add(int time, int retries) throws IllegalArgumentException, IllegalStateException {
        checkRange(time, 1, MOST_TIME);
        checkRange(retries, 0, MOST_RETRIES);
        if (count >= MOST_UNITS) {
            throw new IllegalStateException("there are 20 units");
        }
        checkNoStart();
        Unit added = rows[count];
        added.time = time;
        added.retries = retries;
        count++;
        return added.number;
    }

    public boolean need(int unit, int other) throws IndexOutOfBoundsException, IllegalStateException {
        Unit needing = unitAt(unit);
        Unit needed = unitAt(other);
        if (reaches(needed, needing, false)) {
            throw new IllegalStateException("needs would make a loop");
        }
        checkNoStart();
        boolean didNeed = contains(needing.needs, needed);
        needing.needs |= needed.bit();
        return didNeed;
    }

    public int wish(int unit, int other, int weight)
            throws IndexOutOfBoundsException, IllegalArgumentException, IllegalStateException {
        Unit wishing = unitAt(unit);
        Unit wished = unitAt(other);
        checkRange(weight, 1, MOST_WEIGHT);
        checkDifferent(wishing, wished);
        checkNoStart();
        Wish told = findWish(wishing, wished);
        if (told == null) {
            wishes.add(new Wish(wishing, wished, weight));
            wishing.keptWishes |= wished.bit();
            return 0;
        }
        int before = told.weight;
        told.weight = weight;
        return before;
    }

    public int standIn(int unit, int other)
            throws IndexOutOfBoundsException, IllegalArgumentException, IllegalStateException {
        Unit changed = unitAt(unit);
        Unit substitute = other == NONE ? null : unitAt(other);
        checkDifferent(changed, substitute);
        checkNoStart();
        int before = changed.substitute == null ? NONE : changed.substitute.number;
        changed.substitute = substitute;
        return before;
    }

    public boolean hold(int unit, boolean isHeld) throws IndexOutOfBoundsException, IllegalStateException {
        Unit changed = unitAt(unit);
        checkNoStart();
        boolean before = changed.isHeld;
        changed.isHeld = isHeld;
        return before;
    }

    public int setFaults(int unit, int faults) throws IndexOutOfBoundsException, IllegalArgumentException {
        Unit changed = unitAt(unit);
        checkRange(faults, 0, MOST_FAULTS);
        int before = changed.faults;
        changed.faults = faults;
        return before;
    }

    public int setTime(int unit, int time) throws IndexOutOfBoundsException, IllegalArgumentException {
        Unit changed = unitAt(unit);
        checkRange(time, 1, MOST_TIME);
        int before = changed.time;
        changed.time = time;
        return before;
    }

    public int units() {
        return count;
    }

    public int learned(int unit) throws IndexOutOfBoundsException {
        return unitAt(unit).learned;
    }

    public int faults(int unit) throws IndexOutOfBoundsException {
        return unitAt(unit).faults;
    }

    // ---- starts

    public int begin(int bound) throws IllegalArgumentException, IllegalStateException {
        checkRange(bound, 1, MOST_UNITS);
        checkNoStart();
        this.bound = bound;
        int cut = cutLoops();
        total = 0;
        for (int u = 0; u < count; u++) {
            total += rows[u].resetForStart();
        }
        isGoingOn = true;
        reachedBar = 0;
        raiseBar();
        return cut;
    }

    public int tick(int ticks) throws IllegalArgumentException, IllegalStateException {
        checkRange(ticks, 1, MOST_TICKS);
        if (!isGoingOn) {
            throw new IllegalStateException("no start goes on");
        }
        int passed = 0;
        while (passed < ticks && isGoingOn) {
            passOneTick();
            passed++;
        }
        return passed;
    }

    public boolean goesOn() {
        return isGoingOn;
    }

    public int state(int unit) throws IndexOutOfBoundsException {
        return unitAt(unit).state;
    }

    public int waitsFor(int unit) throws IndexOutOfBoundsException {
        Unit waiting = unitAt(unit);
        if (waiting.state != WAITING) {
            return NONE;
        }
        for (int u = 0; u < count; u++) {
            if (isAwaited(rows[u], waiting)) {
                return u;
            }
        }
        return NONE;
    }

    public int bar() {
        return reachedBar;
    }

    public int ready() {
        int found = 0;
        for (int u = 0; u < count; u++) {
            found |= rows[u].state == READY ? rows[u].bit() : 0;
        }
        return found;
    }

    public int canRun() {
        int able = ableAlone();
        int before = 0;
        // Each round but the last takes a unit away.
        for (int round = 0; round <= count && able != before; round++) {
            before = able;
            able = keepSupplied(able);
        }
        return able;
    }

    // ---- checks of arguments

    private Unit unitAt(int unit) {
        if (unit < 0 || unit >= count) {
            throw new IndexOutOfBoundsException("there is no such unit");
        }
        return rows[unit];
    }

    private void checkRange(int value, int least, int most) {
        if (value < least || value > most) {
            throw new IllegalArgumentException("an argument is out of range");
        }
    }

    private void checkDifferent(Unit one, Unit other) {
        if (one == other) {
            throw new IllegalArgumentException("both units are the same");
        }
    }

    private void checkNoStart() {
        if (isGoingOn) {
            throw new IllegalStateException("a start goes on");
        }
    }

    // ---- needs and wishes

    private boolean contains(int set, Unit unit) {
        return (set & unit.bit()) != 0;
    }

    private Wish findWish(Unit wishing, Unit wished) {
        for (int w = 0; w < wishes.size(); w++) {
            Wish told = wishes.get(w);
            if (told.wishing == wishing && told.wished == wished) {
                return told;
            }
        }
        return null;
    }

    private boolean reaches(Unit from, Unit goal, boolean isOverWishes) {
        int found = from.bit();
        int before = 0;
        // Each round but the last finds a unit more.
        for (int round = 0; round <= count && found != before; round++) {
            before = found;
            for (int u = 0; u < count; u++) {
                if (contains(found, rows[u])) {
                    found |= rows[u].needs | (isOverWishes ? rows[u].keptWishes : 0);
                }
            }
        }
        return contains(found, goal);
    }

    /**
     * A cut never brings a wish into a loop, so that one pass by rising weight cuts the same
     * wishes as looking for the weakest one anew behind each cut.
     */
    private int cutLoops() {
        keepAllWishes();
        int cut = 0;
        for (int weight = 1; weight <= MOST_WEIGHT; weight++) {
            for (int w = 0; w < wishes.size(); w++) {
                Wish told = wishes.get(w);
                if (told.weight == weight && reaches(told.wished, told.wishing, true)) {
                    told.wishing.keptWishes &= ~told.wished.bit();
                    cut++;
                }
            }
        }
        return cut;
    }

    private void keepAllWishes() {
        for (int w = 0; w < wishes.size(); w++) {
            Wish told = wishes.get(w);
            told.wishing.keptWishes |= told.wished.bit();
        }
    }

    private boolean isAwaited(Unit other, Unit waiting) {
        boolean isNeedOpen = contains(waiting.needs, other) && !other.isNeedMet() && !other.isNeedLost();
        boolean isWishOpen = contains(waiting.keptWishes, other) && !other.isWishDone();
        return isNeedOpen || isWishOpen;
    }

    // ---- a tick

    private void passOneTick() {
        endStarts();
        failWithoutNeeds();
        isGoingOn = startWaiting() > 0;
        raiseBar();
    }

    private void endStarts() {
        for (int u = 0; u < count; u++) {
            Unit unit = rows[u];
            if (unit.state == STARTING) {
                unit.ticksStarting++;
                if (unit.ticksStarting >= unit.time) {
                    unit.comeToEnd();
                }
            }
        }
    }

    private void failWithoutNeeds() {
        int lost = lostNeeds();
        for (int u = 0; u < count; u++) {
            Unit unit = rows[u];
            if (unit.state == WAITING && (unit.needs & lost) != 0) {
                unit.state = FAILED;
                lost = lostNeeds();
            }
        }
    }

    /** Returns how many units are STARTING then. */
    private int startWaiting() {
        int met = metNeeds();
        int done = doneWishes();
        int starting = countStarting();
        for (int u = 0; u < count && starting < bound; u++) {
            Unit unit = rows[u];
            if (unit.state == WAITING && (unit.needs & ~met) == 0 && (unit.keptWishes & ~done) == 0) {
                unit.state = STARTING;
                unit.ticksStarting = 0;
                starting++;
            }
        }
        return starting;
    }

    private int countStarting() {
        int starting = 0;
        for (int u = 0; u < count; u++) {
            starting += rows[u].state == STARTING ? 1 : 0;
        }
        return starting;
    }

    private int metNeeds() {
        int met = 0;
        for (int u = 0; u < count; u++) {
            met |= rows[u].isNeedMet() ? rows[u].bit() : 0;
        }
        return met;
    }

    private int lostNeeds() {
        int lost = 0;
        for (int u = 0; u < count; u++) {
            lost |= rows[u].isNeedLost() ? rows[u].bit() : 0;
        }
        return lost;
    }

    private int doneWishes() {
        int done = 0;
        for (int u = 0; u < count; u++) {
            done |= rows[u].isWishDone() ? rows[u].bit() : 0;
        }
        return done;
    }

    // ---- the bar

    private void raiseBar() {
        int now = FULL_BAR;
        if (isGoingOn && total > 0) {
            now = FULL_BAR * timeDone() / total;
        }
        reachedBar = Math.max(reachedBar, now);
    }

    private int timeDone() {
        int done = 0;
        for (int u = 0; u < count; u++) {
            done += rows[u].timeDone();
        }
        return done;
    }

    // ---- what can run

    private int ableAlone() {
        int able = 0;
        for (int u = 0; u < count; u++) {
            Unit unit = rows[u];
            able |= !unit.isHeld && unit.faults <= unit.retries ? unit.bit() : 0;
        }
        return able;
    }

    private int keepSupplied(int able) {
        int supplied = able;
        for (int u = 0; u < count; u++) {
            Unit substitute = rows[u].substitute;
            supplied |= substitute != null && contains(able, substitute) ? rows[u].bit() : 0;
        }
        int kept = 0;
        for (int u = 0; u < count; u++) {
            boolean isKept = contains(able, rows[u]) && (rows[u].needs & ~supplied) == 0;
            kept |= isKept ? rows[u].bit() : 0;
        }
        return kept;
    }

    private static final class Unit {
        final int number;
        int time = 1;
        int retries = 0;
        int learned = FIRST_LEARNED;
        int faults = 0;
        boolean isHeld = false;
        /** The stand-in, or null. */
        Unit substitute = null;
        int needs = 0;
        /** The units wished, without those whose wish is cut in the latest start. */
        int keptWishes = 0;

        int state = WAITING;
        int ticksStarting = 0;
        int retriesUsed = 0;
        int learnedAtBegin = 0;

        Unit(int number) {
            this.number = number;
        }

        int bit() {
            return 1 << number;
        }

        /** Returns what this unit adds to the total of the start. */
        int resetForStart() {
            state = isHeld ? HELD : WAITING;
            retriesUsed = 0;
            learnedAtBegin = learned;
            return isHeld ? 0 : learned;
        }

        boolean isGone() {
            return state == FAILED || state == HELD;
        }

        boolean isNeedMet() {
            return state == READY || (isGone() && substitute != null && substitute.state == READY);
        }

        boolean isNeedLost() {
            return isGone() && (substitute == null || substitute.isGone());
        }

        boolean isWishDone() {
            return state == READY || isGone();
        }

        void comeToEnd() {
            if (faults == 0) {
                state = READY;
                learned = Math.max(1, (learned + time) / 2);
                return;
            }
            faults--;
            if (retriesUsed < retries) {
                retriesUsed++;
                state = WAITING;
            } else {
                state = FAILED;
            }
        }

        int timeDone() {
            if (state == READY || state == FAILED) {
                return learnedAtBegin;
            }
            return state == STARTING ? Math.min(ticksStarting, learnedAtBegin) : 0;
        }
    }

    private static final class Wish {
        final Unit wishing;
        final Unit wished;
        int weight;

        Wish(Unit wishing, Unit wished, int weight) {
            this.wishing = wishing;
            this.wished = wished;
            this.weight = weight;
        }
    }
}
