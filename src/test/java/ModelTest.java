/** All promises at once: long runs of calls, the same in each run of the test, against the Model. */
final class ModelTest {
    private static final int RUNS = 2000;

    private long seed;
    private BootStage stage;
    private Model model;
    private StringBuilder told;

    private ModelTest() {
    }

    public static void main(String[] args) {
        ModelTest test = new ModelTest();
        for (int run = 0; run < RUNS; run++) {
            if (!test.isRunAsDue(run)) {
                break;
            }
        }
        Check.finish();
    }

    private boolean isRunAsDue(int run) {
        seed = run * 0x9E3779B97F4A7C15L;
        stage = new BootStage();
        model = new Model();
        told = new StringBuilder("run " + run + ":");
        int mostUnits = 1 + number(22);
        int calls = 40 + number(100);
        for (int call = 0; call < calls; call++) {
            int kind = call < mostUnits ? 0 : 1 + number(20);
            int[] arguments = arguments(kind);
            told.append(" ").append(kind);
            for (int argument : arguments) {
                told.append(",").append(argument);
            }
            String got = answer(true, kind, arguments) + "\n" + Check.answers(stage);
            String want = answer(false, kind, arguments) + "\n" + model.answers();
            if (!got.equals(want)) {
                Check.dueText(told.toString(), got, want);
                return false;
            }
        }
        return true;
    }

    private int[] arguments(int kind) {
        int units = Math.max(1, stage.units());
        boolean isOff = number(15) == 0;
        int unit = isOff ? number(23) - 1 : number(units);
        int other = number(12) == 0 ? number(23) - 1 : number(units);
        switch (kindName(kind)) {
            case "add":
                return new int[] {isOff ? number(104) - 1 : 1 + number(12), isOff ? number(6) - 1 : number(4)};
            case "wish":
                return new int[] {unit, other, isOff ? number(104) - 1 : 1 + number(4)};
            case "hold":
                return new int[] {unit, number(4) == 0 ? 1 : 0};
            case "setFaults":
                return new int[] {unit, isOff ? number(14) - 1 : number(5)};
            case "setTime":
                return new int[] {unit, isOff ? number(104) - 1 : 1 + number(40)};
            case "begin":
                return new int[] {isOff ? number(24) - 1 : 1 + number(5)};
            case "tick":
                return new int[] {number(3) == 0 ? number(203) : 1 + number(6)};
            default:
                return new int[] {unit, other};
        }
    }

    private static String kindName(int kind) {
        String[] names = {
            "add", "add", "need", "need", "need", "wish", "wish", "wish", "wish", "standIn", "standIn",
            "hold", "setFaults", "setFaults", "setTime", "begin", "begin", "tick", "tick", "tick", "tick"
        };
        return names[kind];
    }

    private String answer(boolean isOfStage, int kind, int[] a) {
        try {
            return String.valueOf(isOfStage ? ofStage(kind, a) : ofModel(kind, a));
        } catch (IndexOutOfBoundsException | IllegalArgumentException | IllegalStateException thrown) {
            return thrown.getClass().getName();
        }
    }

    private int ofStage(int kind, int[] a) {
        switch (kindName(kind)) {
            case "add": return stage.add(a[0], a[1]);
            case "need": return stage.need(a[0], a[1]) ? 1 : 0;
            case "wish": return stage.wish(a[0], a[1], a[2]);
            case "standIn": return stage.standIn(a[0], a[1]);
            case "hold": return stage.hold(a[0], a[1] == 1) ? 1 : 0;
            case "setFaults": return stage.setFaults(a[0], a[1]);
            case "setTime": return stage.setTime(a[0], a[1]);
            case "begin": return stage.begin(a[0]);
            default: return stage.tick(a[0]);
        }
    }

    private int ofModel(int kind, int[] a) {
        switch (kindName(kind)) {
            case "add": return model.add(a[0], a[1]);
            case "need": return model.need(a[0], a[1]);
            case "wish": return model.wish(a[0], a[1], a[2]);
            case "standIn": return model.standIn(a[0], a[1]);
            case "hold": return model.hold(a[0], a[1] == 1);
            case "setFaults": return model.setFaults(a[0], a[1]);
            case "setTime": return model.setTime(a[0], a[1]);
            case "begin": return model.begin(a[0]);
            default: return model.tick(a[0]);
        }
    }

    /** A number from 0 on, below the bound, from a row of numbers that is always the same. */
    private int number(int below) {
        seed = seed * 6364136223846793005L + 1442695040888963407L;
        return (int) ((seed >>> 33) % below);
    }
}
