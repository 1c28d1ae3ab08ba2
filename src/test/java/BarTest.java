/** Promise 17: the bar. */
final class BarTest {
    private BarTest() {
    }

    public static void main(String[] args) {
        beforeTheFirstStart();
        startingCountsItsTicks();
        startingCountsAtMostTheLearnedTime();
        readyAndFailedCountWhole();
        countsWithTheTimeOfTheBegin();
        neverGoesBack();
        withoutATotal();
        withTheLeastTotal();
        overWithUnitsLeft();
        heldUnitsDoNotCount();
        Check.finish();
    }

    private static void beforeTheFirstStart() {
        BootStage stage = new BootStage();
        Check.due("without units", stage.bar(), 0);
        stage.add(1, 0);
        Check.due("with a unit", stage.bar(), 0);
    }

    private static void startingCountsItsTicks() {
        BootStage stage = Check.withUnits(3, 9, 0);
        stage.begin(2);
        int[] bars = {0, 66, 133, 200};
        Check.due("behind begin", stage.bar(), 0);
        for (int want : bars) {
            stage.tick(1);
            Check.due("two of three start, rounded down", stage.bar(), want);
        }
    }

    private static void startingCountsAtMostTheLearnedTime() {
        BootStage stage = Check.withUnits(2, 50, 0);
        stage.begin(1);
        stage.tick(11);
        Check.due("as long as learned", stage.bar(), 500);
        stage.tick(30);
        Check.due("longer than learned", stage.bar(), 500);
    }

    private static void readyAndFailedCountWhole() {
        BootStage stage = Check.withUnits(4, 2, 0);
        stage.setTime(2, 100);
        stage.setFaults(1, 1);
        stage.begin(1);
        stage.tick(3);
        Check.due("one is READY", stage.bar(), 250);
        stage.tick(2);
        Check.due("one has FAILED", stage.bar(), 500);
        stage.tick(200);
        Check.due("the start is over", stage.bar(), 1000);
    }

    private static void countsWithTheTimeOfTheBegin() {
        BootStage stage = Check.withUnits(2, 2, 0);
        stage.setTime(1, 100);
        stage.begin(2);
        stage.tick(3);
        Check.due("a new learned time", stage.learned(0), 6);
        Check.due("the bar counts the old one", stage.bar(), 600);
        stage.tick(200);
        Check.due("learned of the other", stage.learned(1), 55);
        stage.begin(1);
        Check.due("a new start begins at", stage.bar(), 0);
        stage.tick(3);
        Check.due("6 of 61", stage.bar(), 98);
        stage.tick(30);
        Check.due("36 of 61", stage.bar(), 590);
    }

    private static void neverGoesBack() {
        BootStage stage = Check.withUnits(2, 8, 1);
        stage.setFaults(0, 1);
        stage.begin(1);
        stage.tick(8);
        Check.due("before the fault", stage.bar(), 350);
        stage.tick(1);
        Check.due("behind the fault", stage.bar(), 350);
        stage.tick(7);
        Check.due("as far as before", stage.bar(), 350);
        stage.tick(1);
        Check.due("farther than before", stage.bar(), 500);
        stage.setFaults(0, 10);
        stage.setTime(0, 100);
        Check.due("what is told changes nothing", stage.bar(), 500);
    }

    private static void withoutATotal() {
        BootStage none = new BootStage();
        none.begin(1);
        Check.due("without units", none.bar(), 1000);
        BootStage held = Check.withUnits(2, 1, 0);
        held.hold(0, true);
        held.hold(1, true);
        held.begin(1);
        Check.due("with held units alone", held.bar(), 1000);
        held.tick(1);
        held.hold(0, false);
        held.begin(1);
        Check.due("with one let go", held.bar(), 0);
    }

    private static void withTheLeastTotal() {
        BootStage stage = Check.withUnits(1, 1, 1);
        for (int start = 0; start < 4; start++) {
            stage.begin(1);
            stage.tick(200);
        }
        Check.due("learned", stage.learned(0), 1);
        stage.setFaults(0, 1);
        stage.begin(1);
        Check.due("behind begin", stage.bar(), 0);
        stage.tick(2);
        Check.due("behind a fault", stage.bar(), 0);
        Check.due("the last tick", stage.tick(200), 1);
        Check.due("the start is over", stage.bar(), 1000);
    }

    private static void overWithUnitsLeft() {
        BootStage stage = Check.withUnits(2, 1, 0);
        stage.need(0, 1);
        stage.standIn(1, 0);
        stage.hold(1, true);
        stage.begin(1);
        Check.due("behind begin", stage.bar(), 0);
        stage.tick(1);
        Check.due("a unit is left WAITING", stage.state(0), BootStage.WAITING);
        Check.due("the bar is", stage.bar(), 1000);
    }

    private static void heldUnitsDoNotCount() {
        BootStage stage = Check.withUnits(3, 2, 0);
        stage.hold(1, true);
        stage.begin(1);
        stage.tick(3);
        Check.due("one of two is READY", stage.bar(), 500);
    }
}
