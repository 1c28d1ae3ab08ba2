import java.util.ArrayList;
import java.util.List;

/** The document's words once more, slowly and word by word, as a second opinion for ModelTest. */
final class Model {
    private static final class Wish {
        int unit;
        int other;
        int weight;
        boolean isCut;
    }

    final List<int[]> needs = new ArrayList<>();
    private final List<Wish> wishes = new ArrayList<>();
    private int units = 0;
    private final int[] time = new int[20];
    private final int[] learned = new int[20];
    private final int[] retries = new int[20];
    private final int[] retriesLeft = new int[20];
    private final int[] faults = new int[20];
    private final int[] standIn = new int[20];
    private final boolean[] held = new boolean[20];
    private final int[] state = new int[20];
    private final int[] so = new int[20];
    private final int[] weightInBar = new int[20];
    private boolean goesOn = false;
    private int bound = 0;
    private int bar = 0;

    int add(int newTime, int newRetries) {
        argument(newTime >= 1 && newTime <= 100 && newRetries >= 0 && newRetries <= 3);
        stateIs(units < 20 && !goesOn);
        time[units] = newTime;
        retries[units] = newRetries;
        learned[units] = 10;
        standIn[units] = -1;
        state[units] = 0;
        return units++;
    }

    int need(int unit, int other) {
        index(unit);
        index(other);
        stateIs(!isWay(other, unit, false) && !goesOn);
        for (int[] need : needs) {
            if (need[0] == unit && need[1] == other) {
                return 1;
            }
        }
        needs.add(new int[] {unit, other});
        return 0;
    }

    int wish(int unit, int other, int weight) {
        index(unit);
        index(other);
        argument(weight >= 1 && weight <= 100 && unit != other);
        stateIs(!goesOn);
        for (Wish wish : wishes) {
            if (wish.unit == unit && wish.other == other) {
                int before = wish.weight;
                wish.weight = weight;
                return before;
            }
        }
        Wish told = new Wish();
        told.unit = unit;
        told.other = other;
        told.weight = weight;
        wishes.add(told);
        return 0;
    }

    int standIn(int unit, int other) {
        index(unit);
        if (other != -1) {
            index(other);
        }
        argument(unit != other);
        stateIs(!goesOn);
        int before = standIn[unit];
        standIn[unit] = other;
        return before;
    }

    int hold(int unit, boolean isHeld) {
        index(unit);
        stateIs(!goesOn);
        int before = held[unit] ? 1 : 0;
        held[unit] = isHeld;
        return before;
    }

    int setFaults(int unit, int newFaults) {
        index(unit);
        argument(newFaults >= 0 && newFaults <= 10);
        int before = faults[unit];
        faults[unit] = newFaults;
        return before;
    }

    int setTime(int unit, int newTime) {
        index(unit);
        argument(newTime >= 1 && newTime <= 100);
        int before = time[unit];
        time[unit] = newTime;
        return before;
    }

    int begin(int newBound) {
        argument(newBound >= 1 && newBound <= 20);
        stateIs(!goesOn);
        bound = newBound;
        int cut = cut();
        for (int u = 0; u < units; u++) {
            state[u] = held[u] ? 4 : 0;
            retriesLeft[u] = retries[u];
            weightInBar[u] = held[u] ? 0 : learned[u];
        }
        goesOn = true;
        bar = barNow();
        return cut;
    }

    int tick(int ticks) {
        argument(ticks >= 1 && ticks <= 200);
        stateIs(goesOn);
        for (int passed = 0; passed < ticks; passed++) {
            if (!goesOn) {
                return passed;
            }
            one();
        }
        return ticks;
    }

    String answers() {
        StringBuilder all = new StringBuilder();
        int ready = 0;
        for (int u = 0; u < units; u++) {
            ready += state[u] == 2 ? 1 << u : 0;
        }
        all.append("units ").append(units).append(" goesOn ").append(goesOn).append(" bar ").append(bar);
        all.append(" ready ").append(ready).append(" canRun ").append(canRun());
        for (int u = 0; u < units; u++) {
            all.append("\n  ").append(u).append(": state ").append(state[u]);
            all.append(" learned ").append(learned[u]).append(" faults ").append(faults[u]);
            all.append(" waitsFor ").append(waitsFor(u));
        }
        return all.toString();
    }

    private void index(int unit) {
        if (unit < 0 || unit >= units) {
            throw new IndexOutOfBoundsException();
        }
    }

    private void argument(boolean isRight) {
        if (!isRight) {
            throw new IllegalArgumentException();
        }
    }

    private void stateIs(boolean isRight) {
        if (!isRight) {
            throw new IllegalStateException();
        }
    }

    private boolean isWay(int from, int to, boolean overWishes) {
        boolean[] seen = new boolean[20];
        walk(from, seen, overWishes);
        return seen[to];
    }

    private void walk(int from, boolean[] seen, boolean overWishes) {
        if (seen[from]) {
            return;
        }
        seen[from] = true;
        for (int[] need : needs) {
            if (need[0] == from) {
                walk(need[1], seen, overWishes);
            }
        }
        for (Wish wish : wishes) {
            if (overWishes && !wish.isCut && wish.unit == from) {
                walk(wish.other, seen, true);
            }
        }
    }

    private int cut() {
        for (Wish wish : wishes) {
            wish.isCut = false;
        }
        int cuts = 0;
        while (true) {
            Wish weakest = null;
            for (Wish wish : wishes) {
                boolean isLower = weakest == null || wish.weight < weakest.weight;
                if (!wish.isCut && isLower && isWay(wish.other, wish.unit, true)) {
                    weakest = wish;
                }
            }
            if (weakest == null) {
                return cuts;
            }
            weakest.isCut = true;
            cuts++;
        }
    }

    private boolean isOut(int unit) {
        return state[unit] == 3 || state[unit] == 4;
    }

    private boolean isMet(int needed) {
        return state[needed] == 2
                || isOut(needed) && standIn[needed] != -1 && state[standIn[needed]] == 2;
    }

    private boolean isLost(int needed) {
        return isOut(needed) && (standIn[needed] == -1 || isOut(standIn[needed]));
    }

    private boolean isDone(int wished) {
        return state[wished] == 2 || isOut(wished);
    }

    private boolean hasLostNeed(int unit) {
        for (int[] need : needs) {
            if (need[0] == unit && isLost(need[1])) {
                return true;
            }
        }
        return false;
    }

    private boolean mayStart(int unit) {
        for (int[] need : needs) {
            if (need[0] == unit && !isMet(need[1])) {
                return false;
            }
        }
        for (Wish wish : wishes) {
            if (wish.unit == unit && !wish.isCut && !isDone(wish.other)) {
                return false;
            }
        }
        return true;
    }

    private int starting() {
        int starting = 0;
        for (int u = 0; u < units; u++) {
            starting += state[u] == 1 ? 1 : 0;
        }
        return starting;
    }

    private void one() {
        for (int u = 0; u < units; u++) {
            if (state[u] == 1 && ++so[u] >= time[u]) {
                end(u);
            }
        }
        for (int u = 0; u < units; u++) {
            if (state[u] == 0 && hasLostNeed(u)) {
                state[u] = 3;
            }
        }
        for (int u = 0; u < units; u++) {
            if (state[u] == 0 && mayStart(u) && starting() < bound) {
                state[u] = 1;
                so[u] = 0;
            }
        }
        goesOn = starting() > 0;
        bar = goesOn ? Math.max(bar, barNow()) : 1000;
    }

    private void end(int unit) {
        if (faults[unit] == 0) {
            state[unit] = 2;
            learned[unit] = Math.max(1, (learned[unit] + time[unit]) / 2);
        } else {
            faults[unit]--;
            state[unit] = retriesLeft[unit] > 0 ? 0 : 3;
            retriesLeft[unit]--;
        }
    }

    private int barNow() {
        int total = 0;
        int done = 0;
        for (int u = 0; u < units; u++) {
            total += weightInBar[u];
            done += state[u] == 2 || state[u] == 3 ? weightInBar[u] : 0;
            done += state[u] == 1 ? Math.min(so[u], weightInBar[u]) : 0;
        }
        return total == 0 ? 1000 : 1000 * done / total;
    }

    private int waitsFor(int unit) {
        int lowest = 20;
        for (int[] need : needs) {
            if (need[0] == unit && !isMet(need[1]) && !isLost(need[1])) {
                lowest = Math.min(lowest, need[1]);
            }
        }
        for (Wish wish : wishes) {
            if (wish.unit == unit && !wish.isCut && !isDone(wish.other)) {
                lowest = Math.min(lowest, wish.other);
            }
        }
        return state[unit] != 0 || lowest == 20 ? -1 : lowest;
    }

    private int canRun() {
        int set = 0;
        for (int u = 0; u < units; u++) {
            set |= !held[u] && faults[u] <= retries[u] ? 1 << u : 0;
        }
        boolean isChanged = true;
        while (isChanged) {
            isChanged = false;
            for (int[] need : needs) {
                boolean isThere = (set >> need[1] & 1) == 1;
                boolean isStoodIn = standIn[need[1]] != -1 && (set >> standIn[need[1]] & 1) == 1;
                if ((set >> need[0] & 1) == 1 && !isThere && !isStoodIn) {
                    set &= ~(1 << need[0]);
                    isChanged = true;
                }
            }
        }
        return set;
    }
}
