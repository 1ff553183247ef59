import java.util.function.Supplier;
import java.util.function.ToIntFunction;

/** Counts and prints the answers that are not as due. */
final class Check {
    private final String test;
    private int wrong = 0;
    private int asked = 0;

    Check(String test) {
        this.test = test;
    }

    void due(String call, int got, int want) {
        asked++;
        if (got != want) {
            wrong++;
            System.out.println(test + ": " + call + " answered " + got + ", due is " + want);
        }
    }

    void holds(String what, boolean so) {
        asked++;
        if (!so) {
            wrong++;
            System.out.println(test + ": " + what + " does not hold");
        }
    }

    int wrong() {
        return wrong;
    }

    /** A refused call answers as due, and an object that it was made on tells the same as one like it without. */
    void refused(Supplier<HeatBatches> made, String call, ToIntFunction<HeatBatches> asked, int want) {
        HeatBatches x = made.get();
        due(call, asked.applyAsInt(x), want);
        holds(call + " changes nothing", all(x).equals(all(made.get())));
    }

    /** All that the calls tell that change nothing, and what is in the images. */
    static String all(HeatBatches x) {
        StringBuilder told = new StringBuilder(shop(x));
        told.append(x.fault()).append(' ').append(x.count(5)).append(' ').append(x.count(7)).append(' ');
        for (int what = 0; what < 5; what++) {
            told.append(x.row(what)).append(' ');
        }
        for (int job = 0; job < 7; job++) {
            told.append(x.at(job)).append(' ').append(x.put(job, 0)).append(' ').append(x.put(job, 1)).append(' ');
        }
        for (int k = 0; k < 2; k++) {
            told.append(x.restore(k)).append(' ').append(shop(x));
        }
        return told.toString();
    }

    /** What an image keeps, and a part of what follows from it. */
    static String shop(HeatBatches x) {
        StringBuilder told = new StringBuilder();
        for (int what : new int[] {0, 1, 2, 3, 4, 6, 10, 11, 12, 20, 21, 22}) {
            told.append(x.count(what)).append(' ');
        }
        for (int job = 0; job < 7; job++) {
            for (int what = 0; what < 3; what++) {
                told.append(x.of(job, what)).append(' ');
            }
        }
        for (int measure = 0; measure < 4; measure++) {
            told.append(x.best(measure)).append(' ').append(x.plan(measure, 0)).append(' ');
            told.append(x.ruled(measure)).append(' ');
        }
        return told.append('\n').toString();
    }

    /** Signs said one behind the other. */
    static HeatBatches say(HeatBatches x, String signs) {
        for (int i = 0; i < signs.length(); i++) {
            x.say(signs.charAt(i));
        }
        return x;
    }

    /** Jobs, told by three numbers each: FAMILY, VOLUME, DUE. */
    static HeatBatches withJobs(int... numbers) {
        HeatBatches x = new HeatBatches();
        for (int i = 0; i + 2 < numbers.length; i += 3) {
            x.job(numbers[i], numbers[i + 1], numbers[i + 2]);
        }
        return x;
    }

    void finish() {
        System.out.println(test + ": " + asked + " answers, " + wrong + " not as due");
        if (wrong != 0) {
            System.exit(1);
        }
    }
}
