/** Collects answers that are not as due; a test ends with exit code 1 if there was one. */
final class Checks {
    private final String title;
    private String where = "";
    private int made = 0;
    private int wrong = 0;

    Checks(String title) {
        this.title = title;
    }

    void at(String newWhere) {
        where = newWhere;
    }

    void due(String call, long got, long want) {
        made++;
        if (got != want) {
            wrong++;
            System.out.println(where + ": " + call + " answered " + got + ", due is " + want);
        }
    }

    void due(String call, boolean got, boolean want) {
        due(call, got ? 1 : 0, want ? 1 : 0);
    }

    boolean hasWrong() {
        return wrong > 0;
    }

    void finish() {
        System.out.println(title + ": " + made + " checks, " + wrong + " wrong");
        if (wrong > 0 || made == 0) {
            System.exit(1);
        }
    }
}
