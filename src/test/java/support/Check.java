/** Counts and prints the answers that are not as due. */
final class Check {
    private final String test;
    private int wrong = 0;
    private int asked = 0;

    Check(String test) {
        this.test = test;
    }

    void due(String call, int got, int want) {
        asked++;
        if (got != want) {
            wrong++;
            System.out.println(test + ": " + call + " answered " + got + ", due is " + want);
        }
    }

    void holds(String what, boolean so) {
        asked++;
        if (!so) {
            wrong++;
            System.out.println(test + ": " + what + " does not hold");
        }
    }

    int wrong() {
        return wrong;
    }

    /** All that calls can tell without changing anything; two alike say that nothing was changed between them. */
    static String all(HeatBatches x) {
        StringBuilder told = new StringBuilder();
        for (int what = 0; what <= 22; what++) {
            told.append(x.count(what)).append(' ');
        }
        for (int job = 0; job < 7; job++) {
            for (int what = 0; what < 4; what++) {
                told.append(x.of(job, what)).append(' ');
            }
            told.append(x.at(job)).append(' ').append(x.put(job, 0)).append(' ').append(x.put(job, 1)).append(' ');
        }
        for (int measure = 0; measure < 4; measure++) {
            told.append(x.best(measure)).append(' ').append(x.ruled(measure)).append(' ');
            for (int b = -1; b < 7; b++) {
                told.append(x.plan(measure, b)).append(' ');
            }
        }
        for (int b = -1; b < 7; b++) {
            told.append(x.rule(b)).append(' ');
        }
        told.append(x.fault()).append(' ');
        for (int what = 0; what < 5; what++) {
            told.append(x.row(what)).append(' ');
        }
        return told.toString();
    }

    static void say(HeatBatches x, String signs) {
        for (int i = 0; i < signs.length(); i++) {
            x.say(signs.charAt(i));
        }
    }

    void finish() {
        System.out.println(test + ": " + asked + " answers, " + wrong + " not as due");
        if (wrong != 0) {
            System.exit(1);
        }
    }
}
