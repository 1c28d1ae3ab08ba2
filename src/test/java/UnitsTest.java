/** Promises 1 to 11: a new object, what is told of units, and what can be asked of them. */
final class UnitsTest {
    private UnitsTest() {
    }

    public static void main(String[] args) {
        newObject();
        add();
        addBeyondTheMost();
        need();
        needThrows();
        wish();
        wishKeepsItsPlace();
        wishThrows();
        standIn();
        standInThrows();
        hold();
        holdThrows();
        setFaults();
        setTime();
        questionsThrow();
        Check.finish();
    }

    private static void newObject() {
        BootStage stage = new BootStage();
        Check.dueText("a new object", Check.answers(stage), "units 0 goesOn false bar 0 ready 0 canRun 0");
        Check.dueThrow("tick without a start", stage, Check.STATE, () -> stage.tick(1));
    }

    private static void add() {
        BootStage stage = new BootStage();
        Check.due("the first unit", stage.add(1, 0), 0);
        Check.due("the second unit", stage.add(100, 3), 1);
        Check.due("units", stage.units(), 2);
        Check.due("learned at first", stage.learned(1), 10);
        Check.due("faults at first", stage.faults(1), 0);
        Check.due("state at first", stage.state(1), BootStage.WAITING);
        Check.due("its time", stage.setTime(1, 7), 100);
        Check.due("stand-in at first", stage.standIn(1, 0), BootStage.NONE);
        Check.due("held at first", stage.hold(1, false), false);
        Check.dueThrow("add(0, 0)", stage, Check.ARGUMENT, () -> stage.add(0, 0));
        Check.dueThrow("add(101, 0)", stage, Check.ARGUMENT, () -> stage.add(101, 0));
        Check.dueThrow("add(-5, 0)", stage, Check.ARGUMENT, () -> stage.add(-5, 0));
        Check.dueThrow("add(1, -1)", stage, Check.ARGUMENT, () -> stage.add(1, -1));
        Check.dueThrow("add(1, 4)", stage, Check.ARGUMENT, () -> stage.add(1, 4));
        Check.due("the third unit", stage.add(1, 3), 2);
        stage.begin(1);
        Check.dueThrow("add in a start", stage, Check.STATE, () -> stage.add(1, 0));
        Check.dueThrow("add(0, 0) in a start", stage, Check.ARGUMENT, () -> stage.add(0, 0));
    }

    private static void addBeyondTheMost() {
        BootStage stage = Check.withUnits(19, 1, 0);
        Check.due("the twentieth unit", stage.add(1, 0), 19);
        Check.due("units", stage.units(), 20);
        Check.dueThrow("add of a unit too many", stage, Check.STATE, () -> stage.add(1, 0));
        Check.dueThrow("add(1, 4) of a unit too many", stage, Check.ARGUMENT, () -> stage.add(1, 4));
        Check.due("all can run", stage.canRun(), (1 << 20) - 1);
    }

    private static void need() {
        BootStage stage = Check.withUnits(3, 1, 0);
        Check.due("need told first", stage.need(0, 1), false);
        Check.due("need told again", stage.need(0, 1), true);
        Check.due("another need of it", stage.need(0, 2), false);
        Check.due("what it waits for", stage.waitsFor(0), 1);
        Check.due("a needed one waits for", stage.waitsFor(1), BootStage.NONE);
        Check.due("a wish is no need", stage.wish(1, 2, 5), 0);
        Check.due("need beside a wish", stage.need(1, 2), false);
    }

    private static void needThrows() {
        BootStage stage = Check.withUnits(4, 1, 0);
        stage.need(0, 1);
        stage.need(1, 2);
        Check.dueThrow("need(-1, 0)", stage, Check.INDEX, () -> stage.need(-1, 0));
        Check.dueThrow("need(4, 0)", stage, Check.INDEX, () -> stage.need(4, 0));
        Check.dueThrow("need(0, -1)", stage, Check.INDEX, () -> stage.need(0, -1));
        Check.dueThrow("need(0, 4)", stage, Check.INDEX, () -> stage.need(0, 4));
        Check.dueThrow("a unit that needs itself", stage, Check.STATE, () -> stage.need(3, 3));
        Check.dueThrow("a loop of two", stage, Check.STATE, () -> stage.need(1, 0));
        Check.dueThrow("a loop of three", stage, Check.STATE, () -> stage.need(2, 0));
        stage.wish(3, 0, 1);
        Check.due("a loop over a wish is none of needs", stage.need(0, 3), false);
        stage.standIn(2, 0);
        Check.due("a stand-in makes no loop", stage.need(0, 2), false);
        stage.hold(2, true);
        Check.dueThrow("a loop over a held unit", stage, Check.STATE, () -> stage.need(2, 0));
        stage.begin(1);
        Check.dueThrow("need in a start", stage, Check.STATE, () -> stage.need(3, 2));
        Check.dueThrow("need told before, in a start", stage, Check.STATE, () -> stage.need(0, 1));
        Check.dueThrow("need(0, 4) in a start", stage, Check.INDEX, () -> stage.need(0, 4));
    }

    private static void wish() {
        BootStage stage = Check.withUnits(3, 1, 0);
        Check.due("wish told first", stage.wish(0, 2, 1), 0);
        Check.due("wish told again", stage.wish(0, 2, 100), 1);
        Check.due("wish told once more", stage.wish(0, 2, 100), 100);
        Check.due("the wish the other way", stage.wish(2, 0, 3), 0);
        Check.due("another wish of it", stage.wish(0, 1, 4), 0);
        Check.due("what it waits for", stage.waitsFor(0), 1);
        Check.due("what the wished one waits for", stage.waitsFor(2), 0);
        stage.need(1, 2);
        Check.due("a wish beside a need", stage.wish(1, 2, 9), 0);
    }

    private static void wishKeepsItsPlace() {
        BootStage stage = Check.withUnits(2, 1, 0);
        stage.wish(0, 1, 9);
        stage.wish(1, 0, 5);
        stage.wish(0, 1, 5);
        Check.due("one of equal wishes is cut", stage.begin(1), 1);
        Check.due("the one told first is cut", stage.waitsFor(0), BootStage.NONE);
        Check.due("the other one is kept", stage.waitsFor(1), 0);
    }

    private static void wishThrows() {
        BootStage stage = Check.withUnits(2, 1, 0);
        stage.wish(0, 1, 6);
        Check.dueThrow("wish(-1, 0, 1)", stage, Check.INDEX, () -> stage.wish(-1, 0, 1));
        Check.dueThrow("wish(2, 0, 1)", stage, Check.INDEX, () -> stage.wish(2, 0, 1));
        Check.dueThrow("wish(0, -1, 1)", stage, Check.INDEX, () -> stage.wish(0, -1, 1));
        Check.dueThrow("wish(0, 2, 0)", stage, Check.INDEX, () -> stage.wish(0, 2, 0));
        Check.dueThrow("wish(0, 1, 0)", stage, Check.ARGUMENT, () -> stage.wish(0, 1, 0));
        Check.dueThrow("wish(0, 1, 101)", stage, Check.ARGUMENT, () -> stage.wish(0, 1, 101));
        Check.dueThrow("wish(1, 1, 5)", stage, Check.ARGUMENT, () -> stage.wish(1, 1, 5));
        stage.begin(1);
        Check.dueThrow("wish in a start", stage, Check.STATE, () -> stage.wish(0, 1, 7));
        Check.dueThrow("wish(1, 1, 5) in a start", stage, Check.ARGUMENT, () -> stage.wish(1, 1, 5));
        Check.dueThrow("wish(0, 2, 5) in a start", stage, Check.INDEX, () -> stage.wish(0, 2, 5));
        stage.tick(200);
        Check.due("the weight that stands", stage.wish(0, 1, 8), 6);
    }

    private static void standIn() {
        BootStage stage = Check.withUnits(3, 1, 0);
        Check.due("the first stand-in", stage.standIn(0, 1), BootStage.NONE);
        Check.due("the second stand-in", stage.standIn(0, 2), 1);
        Check.due("no stand-in any more", stage.standIn(0, BootStage.NONE), 2);
        Check.due("still none", stage.standIn(0, BootStage.NONE), BootStage.NONE);
        Check.due("unit 0 as a stand-in", stage.standIn(1, 0), BootStage.NONE);
        Check.due("unit 0 is told", stage.standIn(1, 2), 0);
    }

    private static void standInThrows() {
        BootStage stage = Check.withUnits(2, 1, 0);
        stage.standIn(0, 1);
        Check.dueThrow("standIn(-1, 0)", stage, Check.INDEX, () -> stage.standIn(-1, 0));
        Check.dueThrow("standIn(-1, NONE)", stage, Check.INDEX, () -> stage.standIn(-1, -1));
        Check.dueThrow("standIn(2, 0)", stage, Check.INDEX, () -> stage.standIn(2, 0));
        Check.dueThrow("standIn(2, 2)", stage, Check.INDEX, () -> stage.standIn(2, 2));
        Check.dueThrow("standIn(0, 2)", stage, Check.INDEX, () -> stage.standIn(0, 2));
        Check.dueThrow("standIn(0, -2)", stage, Check.INDEX, () -> stage.standIn(0, -2));
        Check.dueThrow("standIn(1, 1)", stage, Check.ARGUMENT, () -> stage.standIn(1, 1));
        stage.begin(1);
        Check.dueThrow("standIn in a start", stage, Check.STATE, () -> stage.standIn(0, -1));
        Check.dueThrow("standIn(1, 1) in a start", stage, Check.ARGUMENT, () -> stage.standIn(1, 1));
        Check.dueThrow("standIn(1, 2) in a start", stage, Check.INDEX, () -> stage.standIn(1, 2));
        stage.tick(200);
        Check.due("the stand-in that stands", stage.standIn(0, 1), 1);
    }

    private static void hold() {
        BootStage stage = Check.withUnits(2, 1, 0);
        Check.due("held first", stage.hold(0, true), false);
        Check.due("held again", stage.hold(0, true), true);
        Check.due("its state before a start", stage.state(0), BootStage.WAITING);
        stage.begin(1);
        Check.due("its state in a start", stage.state(0), BootStage.HELD);
        stage.tick(200);
        Check.due("let go", stage.hold(0, false), true);
        Check.due("let go again", stage.hold(0, false), false);
        Check.due("its state is that of the start", stage.state(0), BootStage.HELD);
    }

    private static void holdThrows() {
        BootStage stage = Check.withUnits(1, 1, 0);
        Check.dueThrow("hold(-1, true)", stage, Check.INDEX, () -> stage.hold(-1, true));
        Check.dueThrow("hold(1, true)", stage, Check.INDEX, () -> stage.hold(1, true));
        stage.begin(1);
        Check.dueThrow("hold in a start", stage, Check.STATE, () -> stage.hold(0, true));
        Check.dueThrow("hold(1, true) in a start", stage, Check.INDEX, () -> stage.hold(1, true));
        stage.tick(200);
        Check.due("not held", stage.hold(0, false), false);
    }

    private static void setFaults() {
        BootStage stage = Check.withUnits(2, 5, 1);
        Check.due("faults laid first", stage.setFaults(0, 10), 0);
        Check.due("faults laid again", stage.setFaults(0, 2), 10);
        Check.due("faults", stage.faults(0), 2);
        Check.due("faults of the other", stage.faults(1), 0);
        Check.dueThrow("setFaults(-1, 0)", stage, Check.INDEX, () -> stage.setFaults(-1, 0));
        Check.dueThrow("setFaults(2, 11)", stage, Check.INDEX, () -> stage.setFaults(2, 11));
        Check.dueThrow("setFaults(0, -1)", stage, Check.ARGUMENT, () -> stage.setFaults(0, -1));
        Check.dueThrow("setFaults(0, 11)", stage, Check.ARGUMENT, () -> stage.setFaults(0, 11));
        stage.begin(2);
        stage.tick(1);
        Check.due("faults laid in a start", stage.setFaults(0, 0), 2);
        stage.tick(5);
        Check.due("without a fault it is", stage.state(0), BootStage.READY);
    }

    private static void setTime() {
        BootStage stage = Check.withUnits(2, 5, 0);
        Check.due("time set first", stage.setTime(0, 100), 5);
        Check.due("time set again", stage.setTime(0, 1), 100);
        Check.due("time of the other", stage.setTime(1, 9), 5);
        Check.dueThrow("setTime(-1, 1)", stage, Check.INDEX, () -> stage.setTime(-1, 1));
        Check.dueThrow("setTime(2, 0)", stage, Check.INDEX, () -> stage.setTime(2, 0));
        Check.dueThrow("setTime(0, 0)", stage, Check.ARGUMENT, () -> stage.setTime(0, 0));
        Check.dueThrow("setTime(0, 101)", stage, Check.ARGUMENT, () -> stage.setTime(0, 101));
        stage.begin(2);
        stage.tick(5);
        Check.due("time set in a start", stage.setTime(1, 2), 9);
        stage.tick(1);
        Check.due("its time is behind it, so it is", stage.state(1), BootStage.READY);
        Check.due("it learned from the time set", stage.learned(1), 6);
        Check.due("the time that stands", stage.setTime(0, 3), 1);
    }

    private static void questionsThrow() {
        BootStage stage = Check.withUnits(2, 1, 0);
        for (int unit : new int[] {-1, 2, 20, Integer.MIN_VALUE, Integer.MAX_VALUE}) {
            Check.dueThrow("learned(" + unit + ")", stage, Check.INDEX, () -> stage.learned(unit));
            Check.dueThrow("faults(" + unit + ")", stage, Check.INDEX, () -> stage.faults(unit));
            Check.dueThrow("state(" + unit + ")", stage, Check.INDEX, () -> stage.state(unit));
            Check.dueThrow("waitsFor(" + unit + ")", stage, Check.INDEX, () -> stage.waitsFor(unit));
        }
    }
}
