/**
 * The edges that the document's sentences name, each in a test of its own whose comment is the
 * sentence. Refused calls are in RefusedTest.
 */
final class EdgeTest {
    private static final int W = BootStage.WAITING;
    private static final int S = BootStage.STARTING;
    private static final int R = BootStage.READY;
    private static final int F = BootStage.FAILED;
    private static final int H = BootStage.HELD;

    private EdgeTest() {
    }

    public static void main(String[] args) {
        theLastOfTheCalls();
        needsAndWishes();
        cutting();
        needsByStates();
        wishesByStates();
        needAndWishForTheSame();
        endsOfStarts();
        retriesToTheLast();
        learning();
        lostNeeds();
        theBound();
        theEndOfAStart();
        theTotalAndTheBar();
        theBarOfEachState();
        whatPasses();
        beforeAndBehindStarts();
        runningSets();
        Check.finish();
    }

    // "An object is used for at most 512 calls after it has been made"
    private static void theLastOfTheCalls() {
        BootStage stage = Check.withUnits(20, 1, 0);
        int calls = 20;
        for (int u = 0; u < 19; u++) {
            stage.need(u, u + 1);
            stage.wish(u + 1, u, 1);
            calls += 2;
        }
        while (calls + 2 <= 512) {
            Check.due("begin, behind " + calls + " calls", stage.begin(20), 19);
            Check.due("tick, behind " + calls + " calls", stage.tick(200), 21);
            calls += 2;
        }
        Check.due("calls", calls, 512);
    }

    private static void needsAndWishes() {
        // "Units are numbered from 0"
        BootStage stage = new BootStage();
        for (int u = 0; u < 20; u++) {
            Check.due("add", stage.add(1 + 99 * (u % 2), 3 * (u % 2)), u);
            Check.due("units", stage.units(), u + 1);
            // "a learned time, which is 10 at first, [..] a number of faults that wait, 0 at first"
            Check.due("learned at first", stage.learned(u), 10);
            Check.due("faults at first", stage.faults(u), 0);
        }
        // "a unit must not need itself over others": over as many as there can be
        for (int u = 0; u < 19; u++) {
            stage.need(u, u + 1);
        }
        Check.dueThrow("a loop of all units", stage, Check.STATE, () -> stage.need(19, 0));
        Check.dueThrow("a loop of all but one", stage, Check.STATE, () -> stage.need(19, 1));
        Check.due("a need beside the way", stage.need(0, 19), false);
        // "it can do both"
        Check.due("a wish for a unit that is needed", stage.wish(0, 1, 1), 0);
        Check.due("the need stays", stage.need(0, 1), true);
        Check.due("the wish stays", stage.wish(0, 1, 100), 1);
    }

    private static void cutting() {
        // "as long as there is a loop": one cut can end two loops
        BootStage shared = Check.withUnits(3, 1, 0);
        shared.wish(0, 1, 1);
        shared.wish(1, 0, 2);
        shared.wish(1, 2, 2);
        shared.wish(2, 0, 2);
        Check.due("one wish in two loops", shared.begin(3), 1);
        Check.due("is cut", shared.waitsFor(0), BootStage.NONE);
        // "as long as there is a loop": without one none is cut
        BootStage none = Check.withUnits(3, 1, 0);
        none.wish(0, 1, 1);
        none.wish(1, 2, 1);
        none.wish(0, 2, 1);
        Check.due("wishes without a loop", none.begin(3), 0);
        // "of all wishes that are in some loop": one that only leads into a loop is in none
        BootStage into = Check.withUnits(4, 1, 0);
        into.wish(0, 1, 1);
        into.wish(1, 2, 50);
        into.wish(2, 1, 49);
        into.wish(2, 3, 1);
        Check.due("a way into a loop and out of it", into.begin(4), 1);
        Check.due("the way in is kept", into.waitsFor(0), 1);
        Check.due("so is the loop's stronger wish", into.waitsFor(1), 2);
        Check.due("and the way out", into.waitsFor(2), 3);
        // "the one with the lowest weight": 1 against 100, told last
        BootStage edges = Check.withUnits(2, 1, 0);
        edges.wish(0, 1, 100);
        edges.wish(1, 0, 1);
        Check.due("the weights 1 and 100", edges.begin(2), 1);
        Check.due("100 is kept", edges.waitsFor(0), 1);
        Check.due("1 is cut", edges.waitsFor(1), BootStage.NONE);
        // the weight 100 is cut as well, if there is nothing but needs beside it
        BootStage strongest = Check.withUnits(2, 1, 0);
        strongest.need(0, 1);
        strongest.wish(1, 0, 100);
        Check.due("100 against a need", strongest.begin(2), 1);
        // "of several the one that was told first", with 20 units in one loop
        BootStage ring = Check.withUnits(20, 1, 0);
        for (int u = 19; u >= 0; u--) {
            ring.wish(u, (u + 1) % 20, 7);
        }
        Check.due("a ring of all units", ring.begin(20), 1);
        Check.due("the first told is cut", ring.waitsFor(19), BootStage.NONE);
        Check.due("the last told is kept", ring.waitsFor(0), 1);
        // "over units that are held or not": all of them held
        ring.tick(200);
        for (int u = 0; u < 20; u++) {
            ring.hold(u, true);
        }
        Check.due("a ring of held units", ring.begin(20), 1);
        // a stand-in is neither a need nor a wish
        BootStage around = Check.withUnits(2, 1, 0);
        around.wish(0, 1, 1);
        around.standIn(1, 0);
        Check.due("a loop over a stand-in alone", around.begin(2), 0);
    }

    /**
     * "A need of a unit is met, if the unit needed is READY, or, if that is FAILED or HELD, its
     * stand-in is READY. It is lost, if the unit needed is FAILED or HELD, and it has no
     * stand-in, or that is FAILED or HELD as well." Each state of the one with each of the other.
     */
    private static void needsByStates() {
        for (int needed : new int[] {W, S, R, F, H}) {
            for (int substitute : new int[] {BootStage.NONE, W, S, R, F, H}) {
                boolean isOut = needed == F || needed == H;
                boolean isNoHelp = substitute == BootStage.NONE || substitute == F || substitute == H;
                boolean isMet = needed == R || isOut && substitute == R;
                boolean isLost = isOut && isNoHelp;
                BootStage stage = new BootStage();
                int unit = addIn(stage, needed);
                int helper = substitute == BootStage.NONE ? BootStage.NONE : addIn(stage, substitute);
                stage.standIn(unit, helper);
                int needing = stage.add(50, 0);
                stage.need(needing, unit);
                holdThose(stage, needed, substitute);
                stage.begin(20);
                stage.tick(2);
                String what = "needed " + needed + ", stand-in " + substitute;
                Check.due(what + ", its state", stage.state(unit), needed);
                if (helper != BootStage.NONE) {
                    Check.due(what + ", the stand-in's state", stage.state(helper), substitute);
                }
                Check.due(what, stage.state(needing), isMet ? S : isLost ? F : W);
                Check.due(what + ", waitsFor", stage.waitsFor(needing),
                        isMet || isLost ? BootStage.NONE : unit);
            }
        }
    }

    // "A wish that is not cut is done, if the unit wished is READY, FAILED or HELD."
    private static void wishesByStates() {
        for (int wished : new int[] {W, S, R, F, H}) {
            BootStage stage = new BootStage();
            int unit = addIn(stage, wished);
            // a READY stand-in does nothing for a wish
            stage.standIn(unit, addIn(stage, R));
            int wishing = stage.add(50, 0);
            stage.wish(wishing, unit, 100);
            holdThose(stage, wished, BootStage.NONE);
            stage.begin(20);
            stage.tick(2);
            boolean isDone = wished == R || wished == F || wished == H;
            Check.due("wished " + wished + ", its state", stage.state(unit), wished);
            Check.due("wished " + wished, stage.state(wishing), isDone ? S : W);
            Check.due("wished " + wished + ", waitsFor", stage.waitsFor(wishing),
                    isDone ? BootStage.NONE : unit);
        }
    }

    /** Adds a unit that is in the state behind two ticks, if it is held where the state is HELD. */
    private static int addIn(BootStage stage, int state) {
        if (state == W) {
            int blocker = stage.add(100, 0);
            int waiting = stage.add(1, 0);
            stage.wish(waiting, blocker, 1);
            return waiting;
        }
        int unit = stage.add(state == S ? 100 : 1, 0);
        stage.setFaults(unit, state == F ? 1 : 0);
        return unit;
    }

    /** Units come in the order needed (or wished), stand-in; a WAITING one has its blocker ahead. */
    private static void holdThose(BootStage stage, int first, int second) {
        int unit = first == W ? 1 : 0;
        stage.hold(unit, first == H);
        if (second == H) {
            stage.hold(unit + 1, true);
        }
    }

    // "Unit a needs unit b, or wishes unit b with a weight; it can do both."
    private static void needAndWishForTheSame() {
        BootStage stage = Check.withUnits(3, 1, 0);
        stage.setTime(2, 4);
        stage.need(0, 1);
        stage.wish(0, 1, 1);
        stage.standIn(1, 2);
        stage.hold(1, true);
        stage.begin(3);
        stage.tick(4);
        Check.due("the wish is done, the need is not met", stage.state(0), W);
        Check.due("it waits for the unit itself", stage.waitsFor(0), 1);
        stage.tick(1);
        Check.due("the need is met by the stand-in", stage.state(0), S);
    }

    private static void endsOfStarts() {
        // "if these are as many as its time, or more, it comes to its end": one less, as many, more
        BootStage stage = Check.withUnits(1, 100, 0);
        stage.begin(1);
        Check.due("ticks", stage.tick(100), 100);
        Check.due("one tick less than its time", stage.state(0), S);
        Check.due("ticks", stage.tick(1), 1);
        Check.due("as many as its time", stage.state(0), R);
        stage.begin(1);
        stage.tick(50);
        Check.due("its time is set below its ticks", stage.setTime(0, 3), 100);
        Check.due("that alone ends nothing", stage.state(0), S);
        Check.due("ticks", stage.tick(200), 1);
        Check.due("more than its time", stage.state(0), R);
        // "it has been so for 0 ticks": the time 1 takes one tick more than the one it starts in
        BootStage shortest = Check.withUnits(1, 1, 0);
        shortest.begin(1);
        shortest.tick(1);
        Check.due("the tick that it starts in", shortest.state(0), S);
        Check.due("no tick but one more", shortest.tick(200), 1);
        Check.due("the tick behind", shortest.state(0), R);
    }

    // "the unit is WAITING again, if it has retries left, one of which is used, otherwise it is FAILED"
    private static void retriesToTheLast() {
        for (int retries = 0; retries <= 3; retries++) {
            for (int faults = 0; faults <= 10; faults++) {
                BootStage stage = new BootStage();
                stage.add(1, retries);
                stage.setFaults(0, faults);
                boolean isAble = faults <= retries;
                Check.due("canRun", stage.canRun(), isAble ? 1 : 0);
                stage.begin(1);
                int tries = isAble ? faults + 1 : retries + 1;
                String what = retries + " retries, " + faults + " faults";
                Check.due(what + ", ticks", stage.tick(200), 1 + tries);
                Check.due(what, stage.state(0), isAble ? R : F);
                Check.due(what + ", left", stage.faults(0), isAble ? 0 : faults - retries - 1);
            }
        }
        // WAITING again, not STARTING at once, where the bound lets a lower unit go first
        BootStage behind = Check.withUnits(3, 1, 1);
        behind.setFaults(1, 1);
        behind.need(0, 2);
        behind.begin(2);
        behind.tick(2);
        dueStates("a lower unit takes the place", behind, S, S, R);
        behind.tick(200);
        behind.setFaults(1, 1);
        behind.setTime(2, 2);
        behind.begin(1);
        behind.tick(2);
        dueStates("it is WAITING and starts anew", behind, W, S, W);
        Check.due("the fault is used up", behind.faults(1), 0);
    }

    // "its learned time becomes that time and its time together, divided by 2, rounded down, but at least 1"
    private static void learning() {
        int[][] rows = {{1, 5}, {2, 6}, {99, 54}, {100, 55}};
        for (int[] row : rows) {
            BootStage stage = Check.withUnits(1, row[0], 0);
            stage.begin(1);
            stage.tick(200);
            Check.due("10 and " + row[0], stage.learned(0), row[1]);
        }
        // the time is that of the end, not that of the begin
        BootStage changed = Check.withUnits(1, 1, 0);
        changed.begin(1);
        changed.tick(1);
        changed.setTime(0, 4);
        changed.tick(200);
        Check.due("10 and 4", changed.learned(0), 7);
        // 1 and 1 stay 1, and 100 and 99 round down below 100
        BootStage edge = Check.withUnits(1, 1, 0);
        for (int start = 0; start < 6; start++) {
            edge.begin(1);
            edge.tick(200);
        }
        Check.due("at least 1", edge.learned(0), 1);
        edge.setTime(0, 100);
        for (int start = 0; start < 9; start++) {
            edge.begin(1);
            edge.tick(200);
        }
        Check.due("100 and 99, rounded down", edge.learned(0), 99);
        // a fault teaches nothing, and a retry that ends without one does
        BootStage retried = Check.withUnits(1, 2, 1);
        retried.setFaults(0, 1);
        retried.begin(1);
        retried.tick(3);
        Check.due("behind a fault", retried.learned(0), 10);
        retried.tick(200);
        Check.due("behind the retry", retried.learned(0), 6);
    }

    private static void lostNeeds() {
        // "each that is WAITING and has a lost need is FAILED": one of many needs is enough
        BootStage stage = Check.withUnits(4, 3, 0);
        stage.need(3, 0);
        stage.need(3, 1);
        stage.need(3, 2);
        stage.hold(1, true);
        stage.begin(4);
        Check.due("behind begin", stage.state(3), W);
        stage.tick(1);
        dueStates("one lost need of three", stage, S, H, S, F);
        // in the very tick in which the unit needed fails
        BootStage same = Check.withUnits(3, 1, 0);
        same.setTime(2, 9);
        same.need(1, 0);
        same.setFaults(0, 1);
        same.begin(3);
        same.tick(2);
        dueStates("in the tick of the fault", same, F, F, S);
        // a unit that is STARTING or READY goes on when what it needs could not be met any more
        BootStage hidden = Check.withUnits(3, 2, 0);
        hidden.setTime(1, 5);
        hidden.need(2, 0);
        hidden.begin(3);
        hidden.tick(5);
        dueStates("needs met once", hidden, R, S, R);
        // a fault with a retry left is no lost need
        BootStage retried = Check.withUnits(2, 1, 1);
        retried.need(1, 0);
        retried.setFaults(0, 1);
        retried.begin(1);
        retried.tick(2);
        dueStates("a retry is left", retried, S, W);
        retried.tick(200);
        dueStates("the retry helps", retried, R, R);
        // a lost wish does not fail a unit
        BootStage wishing = Check.withUnits(2, 1, 0);
        wishing.wish(1, 0, 100);
        wishing.setFaults(0, 1);
        wishing.begin(1);
        wishing.tick(200);
        dueStates("a wish for a failed one", wishing, F, R);
    }

    // "is STARTING, as long as fewer than the bound are"
    private static void theBound() {
        for (int bound = 1; bound <= 20; bound++) {
            BootStage stage = Check.withUnits(20, 2, 0);
            Check.due("begin", stage.begin(bound), 0);
            stage.tick(1);
            int starting = 0;
            for (int u = 0; u < 20; u++) {
                Check.due("bound " + bound + ", state(" + u + ")", stage.state(u), u < bound ? S : W);
                starting += stage.state(u) == S ? 1 : 0;
            }
            Check.due("as many as the bound", starting, bound);
            int rounds = (20 + bound - 1) / bound;
            Check.due("bound " + bound + ", ticks", stage.tick(200), 2 * rounds);
        }
        // those that have been STARTING before count, and one that cannot start takes no place
        BootStage taken = Check.withUnits(4, 9, 0);
        taken.need(0, 3);
        taken.setTime(2, 1);
        taken.begin(2);
        taken.tick(1);
        dueStates("the lowest cannot start", taken, W, S, S, W);
        taken.tick(1);
        dueStates("one place is free again", taken, W, S, R, S);
        // the bound is that of the latest begin
        BootStage next = Check.withUnits(3, 1, 0);
        next.begin(3);
        next.tick(200);
        next.begin(1);
        next.tick(1);
        dueStates("a new bound", next, S, W, W);
    }

    // "The start is over behind a tick in which no unit is STARTING at the end; units can be left WAITING then."
    private static void theEndOfAStart() {
        BootStage held = Check.withUnits(1, 1, 0);
        held.hold(0, true);
        held.begin(1);
        Check.due("begin alone does not end it", held.goesOn(), true);
        Check.due("the first tick does", held.tick(200), 1);
        Check.due("it is over", held.goesOn(), false);
        // a unit that starts at the end of the tick in which the last one ends keeps it going
        BootStage on = Check.withUnits(2, 1, 0);
        on.need(0, 1);
        on.begin(2);
        on.tick(2);
        Check.due("one is READY, one follows", on.goesOn(), true);
        dueStates("one is READY, one follows", on, S, R);
        // a wait over a stand-in is no loop that is cut
        BootStage left = Check.withUnits(4, 1, 0);
        left.need(0, 1);
        left.standIn(1, 2);
        left.hold(1, true);
        left.wish(2, 0, 1);
        Check.due("nothing is cut", left.begin(4), 0);
        Check.due("ticks", left.tick(200), 2);
        dueStates("two are left", left, W, H, W, R);
        Check.due("one waits for", left.waitsFor(0), 1);
        Check.due("the other waits for", left.waitsFor(2), 0);
        Check.due("what is READY", left.ready(), 0b1000);
        // the next start takes those that were left
        left.hold(1, false);
        left.begin(4);
        left.tick(200);
        Check.due("all are READY", left.ready(), 0b1111);
        // a need lost in the last tick, behind its unit's turn
        BootStage late = Check.withUnits(3, 1, 0);
        late.need(0, 1);
        late.need(1, 2);
        late.setFaults(2, 1);
        late.begin(3);
        Check.due("ticks", late.tick(200), 2);
        dueStates("the lowest is left", late, W, F, F);
        Check.due("its need is lost", late.waitsFor(0), BootStage.NONE);
    }

    private static void theTotalAndTheBar() {
        // "without a total it is 1000": at begin, and to the end
        BootStage none = new BootStage();
        Check.due("before the first start", none.bar(), 0);
        none.begin(1);
        Check.due("without a total", none.bar(), 1000);
        none.tick(1);
        Check.due("over without a total", none.bar(), 1000);
        // "When the start is over, it is 1000": until the next begin
        none.add(100, 0);
        Check.due("a unit is added behind it", none.bar(), 1000);
        none.begin(1);
        Check.due("0 of 10", none.bar(), 0);
        // "rounded down": 1 of 3 times 10, and one short of 1000
        BootStage thirds = Check.withUnits(3, 1, 0);
        thirds.setTime(2, 20);
        thirds.begin(1);
        thirds.tick(2);
        Check.due("10 of 30", thirds.bar(), 333);
        thirds.tick(1);
        Check.due("20 of 30", thirds.bar(), 666);
        thirds.tick(9);
        Check.due("29 of 30", thirds.bar(), 966);
        thirds.tick(1);
        Check.due("all of the total before the end", thirds.bar(), 1000);
        Check.due("it goes on", thirds.goesOn(), true);
        // the largest total: 20 units that have learned 99
        BootStage large = Check.withUnits(20, 100, 0);
        for (int start = 0; start < 9; start++) {
            large.begin(20);
            large.tick(200);
        }
        Check.due("learned", large.learned(19), 99);
        large.begin(20);
        Check.due("0 of 1980", large.bar(), 0);
        large.tick(2);
        Check.due("20 of 1980", large.bar(), 10);
        large.tick(98);
        Check.due("1980 of 1980", large.bar(), 1000);
        // "as they are then": what is learned in the start does not change the total
        BootStage then = Check.withUnits(2, 30, 0);
        then.setTime(0, 1);
        then.begin(2);
        then.tick(2);
        Check.due("learned in the start", then.learned(0), 5);
        Check.due("11 of 20", then.bar(), 550);
    }

    private static void theBarOfEachState() {
        // a unit that is FAILED by a lost need counts whole, a HELD one not at all
        BootStage lost = Check.withUnits(5, 50, 0);
        lost.hold(0, true);
        lost.need(1, 0);
        lost.need(2, 1);
        lost.begin(1);
        lost.tick(1);
        dueStates("lost needs", lost, H, F, F, S, W);
        Check.due("20 of 40", lost.bar(), 500);
        // "others with 0": WAITING again behind a fault, but never less than before
        BootStage back = Check.withUnits(2, 5, 1);
        back.setFaults(0, 1);
        back.begin(2);
        back.tick(5);
        Check.due("8 of 20", back.bar(), 400);
        back.tick(1);
        dueStates("one is back", back, S, R);
        Check.due("10 of 20", back.bar(), 500);
        BootStage lower = Check.withUnits(2, 5, 1);
        lower.setTime(1, 50);
        lower.setFaults(0, 1);
        lower.begin(2);
        lower.tick(5);
        Check.due("8 of 20", lower.bar(), 400);
        lower.tick(1);
        Check.due("5 of 20 is less than before", lower.bar(), 400);
        lower.tick(1);
        Check.due("7 of 20 is less than before", lower.bar(), 400);
        lower.tick(1);
        Check.due("9 of 20 is more", lower.bar(), 450);
        // "at most that learned time": at it, and beyond it
        BootStage most = Check.withUnits(2, 12, 0);
        most.begin(1);
        most.tick(10);
        Check.due("9 of 20", most.bar(), 450);
        most.tick(1);
        Check.due("10 of 20", most.bar(), 500);
        most.tick(1);
        Check.due("still 10 of 20", most.bar(), 500);
        // "of this start": a new one is not bound by the bar of an earlier one
        most.tick(200);
        Check.due("over", most.bar(), 1000);
        most.begin(1);
        Check.due("begun anew", most.bar(), 0);
    }

    // "Lets ticks pass; when the start is over, no more pass." Each way to part the ticks is the same.
    private static void whatPasses() {
        for (int ticks = 1; ticks <= 8; ticks++) {
            BootStage stage = Check.withUnits(1, 6, 0);
            stage.begin(1);
            Check.due("tick(" + ticks + ")", stage.tick(ticks), Math.min(ticks, 7));
            Check.due("it goes on behind " + ticks, stage.goesOn(), ticks < 7);
        }
        BootStage most = Check.withUnits(3, 100, 0);
        most.begin(1);
        Check.due("tick(200)", most.tick(200), 200);
        Check.due("it goes on", most.goesOn(), true);
        dueStates("behind 200 ticks", most, R, S, W);
        Check.due("tick(200) again", most.tick(200), 101);
        Check.due("it is over", most.goesOn(), false);
    }

    private static void beforeAndBehindStarts() {
        // "units are WAITING before the first one, and those added behind it"
        BootStage stage = Check.withUnits(2, 1, 0);
        stage.hold(1, true);
        dueStates("before the first start", stage, W, W);
        Check.due("READY before the first start", stage.ready(), 0);
        Check.due("it goes on", stage.goesOn(), false);
        stage.begin(1);
        stage.tick(200);
        stage.add(1, 0);
        dueStates("behind it", stage, R, H, W);
        stage.begin(1);
        dueStates("in the next one", stage, W, H, W);
        stage.tick(200);
        dueStates("behind the next one", stage, R, H, R);
        // "possible at any time": before, in and behind a start
        Check.due("faults behind a start", stage.setFaults(2, 10), 0);
        Check.due("time behind a start", stage.setTime(2, 100), 1);
        stage.begin(1);
        Check.due("faults in a start", stage.setFaults(2, 0), 10);
        Check.due("time in a start", stage.setTime(2, 1), 100);
        Check.due("faults of a held one", stage.setFaults(1, 1), 0);
        // "NONE if there is none, or it is not WAITING": one that is not WAITING, with an open wish told behind
        BootStage later = Check.withUnits(2, 1, 0);
        later.begin(2);
        later.tick(200);
        later.add(1, 0);
        later.need(0, 2);
        later.wish(1, 2, 1);
        Check.due("a READY one with a need that is not met", later.waitsFor(0), BootStage.NONE);
        Check.due("a READY one with a wish that is not done", later.waitsFor(1), BootStage.NONE);
    }

    private static void runningSets() {
        // "those not held, whose faults are at most their retries": the highest unit, bit 19
        BootStage stage = Check.withUnits(20, 1, 3);
        stage.setFaults(19, 3);
        Check.due("as many faults as retries", stage.canRun(), (1 << 20) - 1);
        stage.setFaults(19, 4);
        Check.due("one fault more", stage.canRun(), (1 << 19) - 1);
        stage.begin(20);
        stage.tick(200);
        Check.due("bit u stands for the unit u", stage.ready(), (1 << 19) - 1);
        // "or has such a stand-in": for one that is held, and for one with too many faults
        BootStage both = Check.withUnits(4, 1, 0);
        both.need(3, 0);
        both.need(3, 1);
        both.standIn(0, 2);
        both.standIn(1, 2);
        both.hold(0, true);
        both.setFaults(1, 1);
        Check.due("one stand-in for two", both.canRun(), 0b1100);
        both.hold(2, true);
        Check.due("without it", both.canRun(), 0);
        // "it is the greatest set of which that is so": one that holds itself up
        BootStage itself = Check.withUnits(2, 1, 0);
        itself.need(0, 1);
        itself.standIn(1, 0);
        itself.hold(1, true);
        Check.due("its own stand-in", itself.canRun(), 0b01);
        itself.begin(1);
        itself.tick(200);
        Check.due("which does not start, all the same", itself.ready(), 0);
    }

    private static void dueStates(String what, BootStage stage, int... want) {
        for (int u = 0; u < want.length; u++) {
            Check.due(what + ": state(" + u + ")", stage.state(u), want[u]);
        }
    }
}
