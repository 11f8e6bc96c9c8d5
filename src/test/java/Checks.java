/** Counts answers that are not the ones due, and prints them. */
final class Checks {
    private final String test;
    private String part = "";
    private int asked;
    private int wrong;

    Checks(String test) {
        this.test = test;
    }

    void part(String name) {
        part = name;
    }

    void due(String call, long got, long want) {
        due(call, String.valueOf(got), String.valueOf(want));
    }

    void due(String call, String got, String want) {
        asked++;
        if (!got.equals(want)) {
            wrong++;
            if (wrong <= 50) {
                System.out.println(part + ": " + call + " answered " + got + ", due is " + want);
            }
        }
    }

    void yes(String call, boolean got) {
        due(call, got ? 1 : 0, 1);
    }

    void no(String call, boolean got) {
        due(call, got ? 1 : 0, 0);
    }

    void end() {
        System.out.println(test + ": " + asked + " answers, " + wrong + " of them wrong");
        if (wrong > 0 || asked == 0) {
            System.exit(1);
        }
    }
}
