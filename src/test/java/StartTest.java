/** Promises 12 to 16 and 18: starts, their ticks, states, reasons to wait, and what is READY. */
final class StartTest {
    private StartTest() {
    }

    public static void main(String[] args) {
        beginThrows();
        beginWithoutUnits();
        beginCutsTheWeakest();
        beginCutsToldFirst();
        beginCutsOverNeeds();
        beginCutsOverHeldUnits();
        cutsAreForOneStart();
        tickThrows();
        ticksThatPass();
        boundIsKept();
        timesAreLearned();
        faultsAndRetries();
        retriesAreNewInEachStart();
        lostNeedsPassOnByRisingUnits();
        lostNeedsEndTheStart();
        standInsOfFailedAndHeld();
        standInIsNotAskedBefore();
        wishesAreDone();
        waitsForTheLowest();
        statesOfUnitsAddedLater();
        unitZeroIsAwaited();
        allTwentyUnits();
        allWishes();
        Check.finish();
    }

    private static void beginThrows() {
        BootStage stage = Check.withUnits(1, 1, 0);
        Check.dueThrow("begin(0)", stage, Check.ARGUMENT, () -> stage.begin(0));
        Check.dueThrow("begin(21)", stage, Check.ARGUMENT, () -> stage.begin(21));
        Check.due("begin(20)", stage.begin(20), 0);
        Check.due("a start goes on", stage.goesOn(), true);
        Check.dueThrow("begin in a start", stage, Check.STATE, () -> stage.begin(1));
        Check.dueThrow("begin(0) in a start", stage, Check.ARGUMENT, () -> stage.begin(0));
        stage.tick(200);
        Check.due("begin behind a start", stage.begin(1), 0);
    }

    private static void beginWithoutUnits() {
        BootStage stage = new BootStage();
        Check.due("begin without units", stage.begin(1), 0);
        Check.due("it goes on", stage.goesOn(), true);
        Check.due("one tick passes", stage.tick(200), 1);
        Check.due("it is over", stage.goesOn(), false);
    }

    private static void beginCutsTheWeakest() {
        BootStage stage = Check.withUnits(4, 1, 0);
        stage.wish(0, 1, 7);
        stage.wish(1, 2, 6);
        stage.wish(2, 0, 8);
        stage.wish(0, 3, 1);
        Check.due("one loop, one cut", stage.begin(4), 1);
        Check.due("a weaker wish in no loop is kept", stage.waitsFor(0), 1);
        Check.due("the weakest in the loop is cut", stage.waitsFor(1), BootStage.NONE);
        Check.due("the other one is kept", stage.waitsFor(2), 0);
    }

    private static void beginCutsToldFirst() {
        BootStage stage = Check.withUnits(3, 1, 0);
        stage.wish(2, 1, 5);
        stage.wish(1, 2, 5);
        stage.wish(0, 2, 5);
        stage.wish(2, 0, 4);
        Check.due("two loops, two cuts", stage.begin(3), 2);
        Check.due("both of unit 2 are cut", stage.waitsFor(2), BootStage.NONE);
        Check.due("the wish told later is kept", stage.waitsFor(1), 2);
        Check.due("the stronger wish is kept", stage.waitsFor(0), 2);
    }

    private static void beginCutsOverNeeds() {
        BootStage stage = Check.withUnits(3, 1, 0);
        stage.need(0, 1);
        stage.need(1, 2);
        stage.wish(2, 0, 100);
        stage.wish(0, 2, 1);
        Check.due("the wish against needs is cut", stage.begin(3), 2);
        Check.due("unit 2 waits for", stage.waitsFor(2), BootStage.NONE);
        Check.due("unit 0 waits for", stage.waitsFor(0), 1);

        BootStage along = Check.withUnits(2, 1, 0);
        along.need(0, 1);
        along.wish(0, 1, 1);
        along.standIn(1, 0);
        Check.due("a wish along a need is in no loop", along.begin(2), 0);
    }

    private static void beginCutsOverHeldUnits() {
        BootStage stage = Check.withUnits(3, 1, 0);
        stage.wish(0, 1, 1);
        stage.wish(1, 2, 2);
        stage.need(2, 0);
        stage.hold(1, true);
        Check.due("a loop over a held unit is cut", stage.begin(3), 1);
        stage.tick(1);
        Check.due("unit 0 does not wait", stage.state(0), BootStage.STARTING);
    }

    private static void cutsAreForOneStart() {
        BootStage stage = Check.withUnits(2, 1, 0);
        stage.wish(0, 1, 1);
        stage.wish(1, 0, 2);
        Check.due("the first start cuts", stage.begin(2), 1);
        Check.due("it cuts the wish of unit 0", stage.waitsFor(0), BootStage.NONE);
        stage.tick(200);
        stage.wish(0, 1, 3);
        Check.due("the second start cuts", stage.begin(2), 1);
        Check.due("it keeps the wish of unit 0", stage.waitsFor(0), 1);
        Check.due("it cuts the wish of unit 1", stage.waitsFor(1), BootStage.NONE);
    }

    private static void tickThrows() {
        BootStage stage = Check.withUnits(1, 1, 0);
        Check.dueThrow("tick without a start", stage, Check.STATE, () -> stage.tick(1));
        Check.dueThrow("tick(0) without a start", stage, Check.ARGUMENT, () -> stage.tick(0));
        stage.begin(1);
        Check.dueThrow("tick(0)", stage, Check.ARGUMENT, () -> stage.tick(0));
        Check.dueThrow("tick(-1)", stage, Check.ARGUMENT, () -> stage.tick(-1));
        Check.dueThrow("tick(201)", stage, Check.ARGUMENT, () -> stage.tick(201));
        stage.tick(200);
        Check.dueThrow("tick behind a start", stage, Check.STATE, () -> stage.tick(200));
        Check.dueThrow("tick(201) behind a start", stage, Check.ARGUMENT, () -> stage.tick(201));
    }

    private static void ticksThatPass() {
        BootStage stage = Check.withUnits(1, 3, 0);
        stage.begin(1);
        Check.due("behind begin it is", stage.state(0), BootStage.WAITING);
        Check.due("the first tick", stage.tick(1), 1);
        Check.due("it is", stage.state(0), BootStage.STARTING);
        Check.due("two more ticks", stage.tick(2), 2);
        Check.due("it still is", stage.state(0), BootStage.STARTING);
        Check.due("only one more tick passes", stage.tick(2), 1);
        Check.due("then it is", stage.state(0), BootStage.READY);
        Check.due("and the start is over", stage.goesOn(), false);

        BootStage exact = Check.withUnits(1, 3, 0);
        exact.begin(1);
        Check.due("just the ticks of the start", exact.tick(4), 4);
        Check.due("the start is over as well", exact.goesOn(), false);
    }

    private static void boundIsKept() {
        BootStage stage = Check.withUnits(5, 2, 0);
        stage.setTime(1, 1);
        stage.begin(2);
        stage.tick(1);
        dueStates("two start", stage, BootStage.STARTING, BootStage.STARTING, BootStage.WAITING,
                BootStage.WAITING, BootStage.WAITING);
        Check.due("one that waits for the bound alone", stage.waitsFor(2), BootStage.NONE);
        stage.tick(1);
        dueStates("one follows", stage, BootStage.STARTING, BootStage.READY, BootStage.STARTING,
                BootStage.WAITING, BootStage.WAITING);
        stage.tick(1);
        dueStates("one more follows", stage, BootStage.READY, BootStage.READY, BootStage.STARTING,
                BootStage.STARTING, BootStage.WAITING);
        Check.due("what is READY", stage.ready(), 0b00011);
        stage.tick(200);
        Check.due("all are READY", stage.ready(), 0b11111);
        stage.begin(20);
        Check.due("none is READY in a new start", stage.ready(), 0);
        stage.tick(1);
        dueStates("all start", stage, BootStage.STARTING, BootStage.STARTING, BootStage.STARTING,
                BootStage.STARTING, BootStage.STARTING);
    }

    private static void timesAreLearned() {
        BootStage stage = Check.withUnits(1, 5, 0);
        stage.begin(1);
        stage.tick(200);
        Check.due("(10 + 5) / 2", stage.learned(0), 7);
        stage.setTime(0, 1);
        int[] learned = {4, 2, 1, 1};
        for (int want : learned) {
            stage.begin(1);
            stage.tick(200);
            Check.due("learned", stage.learned(0), want);
        }
        stage.setTime(0, 100);
        stage.setFaults(0, 1);
        stage.begin(1);
        stage.tick(200);
        Check.due("a unit that fails learns nothing", stage.learned(0), 1);
    }

    private static void faultsAndRetries() {
        BootStage stage = Check.withUnits(1, 2, 2);
        stage.setFaults(0, 4);
        stage.begin(1);
        stage.tick(3);
        Check.due("tried again at once", stage.state(0), BootStage.STARTING);
        Check.due("a fault is used up", stage.faults(0), 3);
        stage.tick(1);
        Check.due("its ticks count from 0", stage.faults(0), 3);
        stage.tick(1);
        Check.due("two faults are used up", stage.faults(0), 2);
        Check.due("the last try ends the start", stage.tick(200), 2);
        Check.due("then it is", stage.state(0), BootStage.FAILED);
        Check.due("three faults are used up", stage.faults(0), 1);
        Check.due("what is READY", stage.ready(), 0);
        Check.due("it waits for", stage.waitsFor(0), BootStage.NONE);
    }

    private static void retriesAreNewInEachStart() {
        BootStage stage = Check.withUnits(2, 1, 1);
        for (int start = 0; start < 3; start++) {
            stage.setFaults(0, 1);
            stage.begin(1);
            stage.tick(200);
            Check.due("a retry helps in each start", stage.ready(), 0b11);
        }
        stage.setFaults(0, 1);
        stage.begin(1);
        stage.tick(2);
        Check.due("the lower unit takes the free place again", stage.state(0), BootStage.STARTING);
        Check.due("the higher one waits on", stage.state(1), BootStage.WAITING);
    }

    private static void lostNeedsPassOnByRisingUnits() {
        BootStage stage = Check.withUnits(4, 9, 0);
        stage.hold(1, true);
        stage.need(2, 1);
        stage.need(3, 2);
        stage.need(0, 3);
        stage.add(9, 0);
        stage.begin(1);
        Check.due("behind begin it still waits", stage.state(2), BootStage.WAITING);
        Check.due("a lost need is not waited for", stage.waitsFor(2), BootStage.NONE);
        stage.tick(1);
        dueStates("higher units fail in the same tick", stage, BootStage.WAITING, BootStage.HELD,
                BootStage.FAILED, BootStage.FAILED, BootStage.STARTING);
        stage.tick(1);
        Check.due("a lower one in the next", stage.state(0), BootStage.FAILED);
    }

    private static void lostNeedsEndTheStart() {
        BootStage stage = Check.withUnits(3, 9, 0);
        stage.hold(2, true);
        stage.need(1, 2);
        stage.need(0, 1);
        stage.begin(1);
        Check.due("no unit starts", stage.tick(200), 1);
        dueStates("units can be left", stage, BootStage.WAITING, BootStage.FAILED, BootStage.HELD);
    }

    private static void standInsOfFailedAndHeld() {
        BootStage stage = Check.withUnits(4, 2, 0);
        stage.need(0, 1);
        stage.standIn(1, 2);
        stage.hold(1, true);
        stage.begin(4);
        stage.tick(1);
        Check.due("it waits while the stand-in starts", stage.state(0), BootStage.WAITING);
        Check.due("it waits for the unit itself", stage.waitsFor(0), 1);
        stage.tick(2);
        Check.due("it starts with the stand-in", stage.state(0), BootStage.STARTING);
        stage.tick(200);
        stage.hold(1, false);
        stage.setFaults(1, 1);
        stage.setFaults(2, 1);
        stage.begin(4);
        stage.tick(3);
        dueStates("both have failed", stage, BootStage.FAILED, BootStage.FAILED, BootStage.FAILED,
                BootStage.READY);
        stage.hold(2, true);
        stage.setFaults(1, 1);
        stage.begin(4);
        stage.tick(200);
        dueStates("one failed, one held", stage, BootStage.FAILED, BootStage.FAILED, BootStage.HELD,
                BootStage.READY);
    }

    private static void standInIsNotAskedBefore() {
        BootStage stage = Check.withUnits(3, 1, 0);
        stage.setTime(1, 9);
        stage.need(0, 1);
        stage.standIn(1, 2);
        stage.begin(3);
        stage.tick(3);
        dueStates("a READY stand-in of a STARTING unit", stage, BootStage.WAITING, BootStage.STARTING,
                BootStage.READY);

        BootStage circle = Check.withUnits(2, 1, 0);
        circle.need(0, 1);
        circle.standIn(1, 0);
        circle.hold(1, true);
        circle.begin(1);
        Check.due("a unit that would stand in for itself", circle.tick(200), 1);
        Check.due("it is left", circle.state(0), BootStage.WAITING);
        Check.due("it waits for", circle.waitsFor(0), 1);
    }

    private static void wishesAreDone() {
        BootStage stage = Check.withUnits(4, 2, 0);
        stage.wish(0, 1, 1);
        stage.wish(0, 2, 1);
        stage.wish(0, 3, 1);
        stage.hold(1, true);
        stage.setFaults(2, 1);
        stage.setTime(3, 4);
        stage.standIn(3, 2);
        stage.begin(4);
        stage.tick(1);
        Check.due("a held one is not waited for", stage.waitsFor(0), 2);
        stage.tick(2);
        Check.due("a failed one is not waited for", stage.waitsFor(0), 3);
        stage.tick(2);
        dueStates("all wishes are done", stage, BootStage.STARTING, BootStage.HELD, BootStage.FAILED,
                BootStage.READY);
        Check.due("a STARTING one waits for", stage.waitsFor(0), BootStage.NONE);
    }

    private static void waitsForTheLowest() {
        BootStage stage = Check.withUnits(4, 1, 0);
        stage.need(3, 2);
        stage.wish(3, 1, 1);
        stage.need(3, 0);
        Check.due("before the first start", stage.waitsFor(3), 0);
        stage.setTime(0, 2);
        stage.setTime(1, 5);
        stage.setTime(2, 9);
        stage.begin(4);
        Check.due("behind begin", stage.waitsFor(3), 0);
        stage.tick(3);
        Check.due("behind the need of 0", stage.waitsFor(3), 1);
        stage.tick(3);
        Check.due("behind the wish for 1", stage.waitsFor(3), 2);
        stage.tick(200);
        Check.due("when it is READY", stage.waitsFor(3), BootStage.NONE);
    }

    private static void statesOfUnitsAddedLater() {
        BootStage stage = Check.withUnits(1, 1, 0);
        stage.begin(1);
        stage.tick(200);
        Check.due("added behind the start", stage.add(1, 0), 1);
        Check.due("it is", stage.state(1), BootStage.WAITING);
        Check.due("what is READY", stage.ready(), 0b1);
        stage.need(1, 0);
        Check.due("its need is met", stage.waitsFor(1), BootStage.NONE);
        stage.add(1, 0);
        stage.wish(1, 2, 1);
        Check.due("its wish is not done", stage.waitsFor(1), 2);
        Check.due("the bar stays", stage.bar(), 1000);
    }

    private static void unitZeroIsAwaited() {
        BootStage stage = Check.withUnits(5, 3, 0);
        stage.need(1, 0);
        stage.wish(2, 0, 1);
        stage.wish(2, 4, 1);
        Check.due("of two wishes the lower", stage.waitsFor(2), 0);
        stage.wish(4, 1, 1);
        stage.wish(4, 2, 1);
        Check.due("the wish told first in the loop of 2 and 4 is cut", stage.begin(5), 1);
        stage.tick(3);
        dueStates("while unit 0 starts", stage, BootStage.STARTING, BootStage.WAITING, BootStage.WAITING,
                BootStage.STARTING, BootStage.WAITING);
        Check.due("a need of unit 0", stage.waitsFor(1), 0);
        Check.due("a wish for unit 0", stage.waitsFor(2), 0);
        Check.due("a wish for unit 1", stage.waitsFor(4), 1);
        stage.tick(1);
        dueStates("unit 0 is READY", stage, BootStage.READY, BootStage.STARTING, BootStage.STARTING,
                BootStage.READY, BootStage.WAITING);

        BootStage held = Check.withUnits(3, 3, 0);
        held.need(1, 0);
        held.wish(2, 0, 1);
        held.hold(0, true);
        held.begin(1);
        held.tick(1);
        dueStates("unit 0 is HELD", held, BootStage.HELD, BootStage.FAILED, BootStage.STARTING);
    }

    private static void allTwentyUnits() {
        BootStage stage = Check.withUnits(20, 1, 0);
        for (int u = 0; u < 19; u++) {
            stage.need(u, u + 1);
            stage.wish(u + 1, u, 1 + u);
        }
        Check.due("every wish is against a need", stage.begin(20), 19);
        Check.due("one behind the other", stage.tick(200), 21);
        Check.due("what is READY", stage.ready(), (1 << 20) - 1);
        stage.hold(19, true);
        stage.begin(20);
        Check.due("the highest unit is held", stage.tick(200), 1);
        Check.due("unit 18 is", stage.state(18), BootStage.FAILED);

        BootStage wide = Check.withUnits(20, 2, 0);
        wide.begin(19);
        wide.tick(3);
        Check.due("19 at once", wide.ready(), (1 << 19) - 1);
        Check.due("their bar", wide.bar(), 950);
        Check.due("the last one", wide.tick(200), 2);
    }

    private static void allWishes() {
        BootStage stage = Check.withUnits(20, 1, 0);
        for (int pair = 0; pair < 400; pair++) {
            int unit = pair / 20;
            int other = pair % 20;
            if (unit != other) {
                stage.wish(unit, other, unit < other ? 2 : 1);
            }
        }
        Check.due("of each two wishes one is cut", stage.begin(20), 190);
        Check.due("the last one starts first", stage.waitsFor(19), BootStage.NONE);
        Check.due("one behind the other", stage.tick(200), 21);
    }

    private static void dueStates(String what, BootStage stage, int... want) {
        for (int u = 0; u < want.length; u++) {
            Check.due(what + ": state(" + u + ")", stage.state(u), want[u]);
        }
    }
}
