/**
 * Which calls are refused, and with which exception: every method with arguments at and beyond
 * the edges of their ranges, and at those of int, crossed with each situation of an object.
 */
final class RefusedTest {
    interface Answer {
        void of(BootStage stage);
    }

    enum Situation {
        EMPTY(0, false, false), TOLD(3, false, false), GOING(3, true, false), OVER(3, true, true),
        FULL(20, false, false), FULL_GOING(20, true, false);

        final int units;
        final boolean isGoingOn;
        private final boolean isBegun;

        Situation(int units, boolean isBegun, boolean isOver) {
            this.units = units;
            this.isBegun = isBegun;
            this.isGoingOn = isBegun && !isOver;
        }

        /** Each unit needs the next one and is wished by it. */
        BootStage make() {
            BootStage stage = Check.withUnits(units, 3, 1);
            for (int u = 0; u + 1 < units; u++) {
                stage.need(u, u + 1);
                stage.wish(u + 1, u, 1 + u);
                stage.standIn(u, u + 1);
            }
            if (isBegun) {
                stage.begin(2);
                stage.tick(isGoingOn ? 2 : 200);
            }
            return stage;
        }
    }

    private static final int[] UNITS = {
        Integer.MIN_VALUE, -33, -32, -2, -1, 0, 1, 2, 3, 18, 19, 20, 31, 32, 33, 64, Integer.MAX_VALUE
    };
    private static final int[] NUMBERS = {
        Integer.MIN_VALUE, Integer.MIN_VALUE + 1, -256, -1, 0, 1, 2, 3, 4, 10, 11, 20, 21, 32, 99, 100, 101,
        199, 200, 201, 256, 257, 65536, 65537, Integer.MAX_VALUE - 1, Integer.MAX_VALUE
    };

    private final Situation situation;
    /** All refused calls of a situation are made on this one. */
    private final BootStage refusing;

    private RefusedTest(Situation situation) {
        this.situation = situation;
        this.refusing = situation.make();
    }

    public static void main(String[] args) {
        for (Situation situation : Situation.values()) {
            RefusedTest test = new RefusedTest(situation);
            test.add();
            test.callsOfTwoUnits();
            test.callsOfOneUnit();
            test.beginAndTick();
            test.nothingHasChanged();
        }
        Check.finish();
    }

    private void add() {
        for (int time : NUMBERS) {
            for (int retries : NUMBERS) {
                boolean isOut = isOut(time, 1, 100) || isOut(retries, 0, 3);
                boolean isBadState = situation.units == 20 || situation.isGoingOn;
                due("add(" + time + ", " + retries + ")", false, isOut, isBadState, x -> x.add(time, retries));
            }
        }
    }

    private void callsOfTwoUnits() {
        for (int unit : UNITS) {
            for (int other : UNITS) {
                String both = "(" + unit + ", " + other + ")";
                boolean isNoUnit = isNoUnit(unit) || isNoUnit(other);
                boolean isBadNeed = other <= unit || situation.isGoingOn;
                due("need" + both, isNoUnit, false, isBadNeed, x -> x.need(unit, other));
                boolean isNoStandIn = isNoUnit(unit) || (other != BootStage.NONE && isNoUnit(other));
                due("standIn" + both, isNoStandIn, unit == other, situation.isGoingOn, x -> x.standIn(unit, other));
                for (int weight : NUMBERS) {
                    boolean isOut = isOut(weight, 1, 100) || unit == other;
                    due("wish" + both + " " + weight, isNoUnit, isOut, situation.isGoingOn,
                            x -> x.wish(unit, other, weight));
                }
            }
        }
    }

    private void callsOfOneUnit() {
        for (int unit : UNITS) {
            boolean isNoUnit = isNoUnit(unit);
            due("hold " + unit, isNoUnit, false, situation.isGoingOn, x -> x.hold(unit, true));
            due("let go " + unit, isNoUnit, false, situation.isGoingOn, x -> x.hold(unit, false));
            due("learned " + unit, isNoUnit, false, false, x -> x.learned(unit));
            due("faults " + unit, isNoUnit, false, false, x -> x.faults(unit));
            due("state " + unit, isNoUnit, false, false, x -> x.state(unit));
            due("waitsFor " + unit, isNoUnit, false, false, x -> x.waitsFor(unit));
            for (int number : NUMBERS) {
                String both = "(" + unit + ", " + number + ")";
                due("setFaults" + both, isNoUnit, isOut(number, 0, 10), false, x -> x.setFaults(unit, number));
                due("setTime" + both, isNoUnit, isOut(number, 1, 100), false, x -> x.setTime(unit, number));
            }
        }
    }

    private void beginAndTick() {
        for (int number : NUMBERS) {
            due("begin " + number, false, isOut(number, 1, 20), situation.isGoingOn, x -> x.begin(number));
            due("tick " + number, false, isOut(number, 1, 200), !situation.isGoingOn, x -> x.tick(number));
        }
    }

    /** What no question tells shows in the answers of calls that change, and in a start. */
    private void nothingHasChanged() {
        String got = hidden(refusing);
        Check.dueText(situation + " behind all refused calls", got, hidden(situation.make()));
    }

    private String hidden(BootStage stage) {
        StringBuilder all = new StringBuilder();
        for (int tick = 0; tick < 200 && stage.goesOn(); tick++) {
            stage.tick(1);
            all.append(Check.answers(stage)).append("\n");
        }
        stage.begin(20);
        for (int tick = 0; tick < 200 && stage.goesOn(); tick++) {
            all.append(Check.answers(stage)).append("\n");
            stage.tick(1);
        }
        for (int u = 0; u < stage.units(); u++) {
            all.append(u).append(": ").append(stage.setTime(u, 9)).append(" ").append(stage.hold(u, false));
            all.append(" ").append(stage.standIn(u, BootStage.NONE)).append(" ").append(stage.setFaults(u, 0));
            for (int other = 0; other < stage.units(); other++) {
                all.append(other > u ? " need " + stage.need(u, other) : "");
                all.append(other == u ? "" : " wish " + stage.wish(u, other, 9));
            }
            all.append("\n");
        }
        return all.toString();
    }

    private boolean isNoUnit(int unit) {
        return isOut(unit, 0, situation.units - 1);
    }

    private static boolean isOut(int number, int least, int most) {
        return number < least || number > most;
    }

    private void due(String call, boolean isNoUnit, boolean isOut, boolean isBadState, Answer answer) {
        String what = situation + ": " + call;
        if (isNoUnit || isOut || isBadState) {
            Class<? extends RuntimeException> listedFirst =
                    isNoUnit ? Check.INDEX : isOut ? Check.ARGUMENT : Check.STATE;
            Check.dueThrow(what, refusing, listedFirst, () -> answer.of(refusing));
            return;
        }
        try {
            answer.of(situation.make());
        } catch (RuntimeException thrown) {
            Check.dueText(what + " throws", thrown.getClass().getName(), "nothing");
        }
    }
}
