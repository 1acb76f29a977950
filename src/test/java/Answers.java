/** Counts the answers of one test program, and prints each that is not the one that is due. */
final class Answers {
    private final String test;
    private int asked;
    private int wrong;

    Answers(String test) {
        this.test = test;
    }

    void due(String call, Object got, Object want) {
        asked++;
        if (!want.equals(got)) {
            wrong++;
            System.out.println(test + ": " + call + " answered " + got + ", due is " + want);
        }
    }

    /** The call throws exactly this exception, and nothing about the grid changes. */
    void dueThrow(String call, MergeGrid grid, Class<? extends RuntimeException> want, Runnable run) {
        String before = Look.at(grid);
        due(call, outcome(run), want.getSimpleName());
        due(call + " changes nothing", Look.at(grid), before);
    }

    private static String outcome(Runnable run) {
        try {
            run.run();
            return "no exception";
        } catch (RuntimeException e) {
            return e.getClass().getSimpleName();
        }
    }

    void end() {
        System.out.println(test + ": " + asked + " answers, " + wrong + " not as due");
        if (wrong != 0 || asked == 0) {
            System.exit(1);
        }
    }
}
