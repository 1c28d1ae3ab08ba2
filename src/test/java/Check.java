/** Counts answers that are not the ones that are due; each test ends with its finish(). */
final class Check {
    interface Call {
        void run();
    }

    static final Class<? extends RuntimeException> INDEX = IndexOutOfBoundsException.class;
    static final Class<? extends RuntimeException> ARGUMENT = IllegalArgumentException.class;
    static final Class<? extends RuntimeException> STATE = IllegalStateException.class;

    private static int wrong = 0;

    private Check() {
    }

    static void due(String what, long got, long want) {
        if (got != want) {
            report(what + " answered " + got + ", due is " + want);
        }
    }

    static void due(String what, boolean got, boolean want) {
        due(what, got ? 1 : 0, want ? 1 : 0);
    }

    static void dueText(String what, String got, String want) {
        if (!got.equals(want)) {
            report(what + " answered\n" + got + "\ndue is\n" + want);
        }
    }

    /** The call is due to throw just this exception, and to change nothing that can be asked for. */
    static void dueThrow(String what, BootStage stage, Class<? extends RuntimeException> want, Call call) {
        String before = answers(stage);
        String got = "nothing";
        try {
            call.run();
        } catch (RuntimeException thrown) {
            got = thrown.getClass().getName();
        }
        dueText(what + " throws", got, want.getName());
        dueText(what + ", what stands behind it,", answers(stage), before);
    }

    /** All that can be asked of an object without changing it. */
    static String answers(BootStage stage) {
        StringBuilder all = new StringBuilder();
        all.append("units ").append(stage.units());
        all.append(" goesOn ").append(stage.goesOn());
        all.append(" bar ").append(stage.bar());
        all.append(" ready ").append(stage.ready());
        all.append(" canRun ").append(stage.canRun());
        for (int u = 0; u < stage.units(); u++) {
            all.append("\n  ").append(u);
            all.append(": state ").append(stage.state(u));
            all.append(" learned ").append(stage.learned(u));
            all.append(" faults ").append(stage.faults(u));
            all.append(" waitsFor ").append(stage.waitsFor(u));
        }
        return all.toString();
    }

    static BootStage withUnits(int units, int time, int retries) {
        BootStage stage = new BootStage();
        for (int u = 0; u < units; u++) {
            stage.add(time, retries);
        }
        return stage;
    }

    static void finish() {
        if (wrong > 0) {
            System.out.println(wrong + " answers are not as due");
            System.exit(1);
        }
        System.out.println("all answers are as due");
    }

    private static void report(String text) {
        wrong++;
        System.out.println(text);
    }
}
