/** Promise 19: the greatest set of units that could be READY. */
final class CanRunTest {
    private CanRunTest() {
    }

    public static void main(String[] args) {
        heldAndFaulty();
        overNeeds();
        overStandIns();
        greatestSet();
        farChain();
        apartFromTheStart();
        Check.finish();
    }

    private static void heldAndFaulty() {
        BootStage stage = new BootStage();
        Check.due("without units", stage.canRun(), 0);
        stage.add(1, 0);
        stage.add(1, 2);
        stage.add(1, 3);
        Check.due("all", stage.canRun(), 0b111);
        stage.setFaults(0, 1);
        stage.setFaults(1, 2);
        stage.setFaults(2, 4);
        Check.due("faults within the retries", stage.canRun(), 0b010);
        stage.hold(1, true);
        Check.due("held", stage.canRun(), 0);
        stage.setFaults(0, 0);
        stage.hold(1, false);
        Check.due("let go", stage.canRun(), 0b011);
    }

    private static void overNeeds() {
        BootStage stage = Check.withUnits(4, 1, 0);
        stage.need(0, 1);
        stage.need(1, 2);
        stage.need(1, 3);
        Check.due("all needs can run", stage.canRun(), 0b1111);
        stage.hold(3, true);
        Check.due("one need is held", stage.canRun(), 0b0100);
        stage.wish(2, 3, 1);
        Check.due("a wish does not matter", stage.canRun(), 0b0100);
    }

    private static void overStandIns() {
        BootStage stage = Check.withUnits(5, 1, 0);
        stage.need(0, 1);
        stage.standIn(1, 2);
        stage.standIn(2, 3);
        stage.hold(1, true);
        Check.due("the stand-in can run", stage.canRun(), 0b11101);
        stage.need(2, 4);
        stage.hold(4, true);
        Check.due("the stand-in of a stand-in does not help", stage.canRun(), 0b01000);
        stage.standIn(1, BootStage.NONE);
        stage.hold(4, false);
        Check.due("without a stand-in", stage.canRun(), 0b11100);

        BootStage zero = Check.withUnits(3, 1, 0);
        zero.need(2, 0);
        zero.standIn(0, 1);
        zero.hold(0, true);
        Check.due("the stand-in of unit 0", zero.canRun(), 0b110);
    }

    private static void greatestSet() {
        BootStage stage = Check.withUnits(3, 1, 0);
        stage.need(0, 1);
        stage.standIn(1, 2);
        stage.need(2, 0);
        stage.hold(1, true);
        Check.due("two that hold each other up", stage.canRun(), 0b101);
        stage.setFaults(0, 1);
        Check.due("one of them cannot", stage.canRun(), 0);
    }

    private static void farChain() {
        BootStage rising = Check.withUnits(20, 1, 0);
        BootStage falling = Check.withUnits(20, 1, 0);
        for (int u = 0; u < 19; u++) {
            rising.need(u, u + 1);
            falling.need(u + 1, u);
        }
        Check.due("a whole chain", rising.canRun(), (1 << 20) - 1);
        rising.hold(19, true);
        falling.hold(0, true);
        Check.due("a chain without its end", rising.canRun(), 0);
        Check.due("a chain without its head", falling.canRun(), 0);
    }

    private static void apartFromTheStart() {
        BootStage stage = Check.withUnits(1, 1, 1);
        stage.setFaults(0, 3);
        stage.begin(1);
        Check.due("too many faults", stage.canRun(), 0);
        stage.tick(200);
        Check.due("it has failed", stage.state(0), BootStage.FAILED);
        Check.due("the faults that wait now are fewer", stage.canRun(), 0b1);
        stage.setFaults(0, 1);
        stage.begin(1);
        stage.tick(2);
        stage.setFaults(0, 1);
        Check.due("used retries do not count", stage.canRun(), 0b1);
    }
}
