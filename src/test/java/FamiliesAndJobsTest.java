/** Promises 1 to 7. */
public final class FamiliesAndJobsTest {
    private static final int UNKNOWN = -1, OUTSIDE = -2, STATE = -3, FULL = -4, NONE = -6;
    private static final int[] FAR = {Integer.MIN_VALUE, -1000, 1000, Integer.MAX_VALUE};

    private static final Check check = new Check("FamiliesAndJobsTest");

    public static void main(String[] args) {
        newObject();
        objectsAreApart();
        family();
        familyRefused();
        set();
        setRefused();
        job();
        jobRefused();
        drop();
        dropAndThePad();
        due();
        of();
        tightIsTakenDown();
        check.finish();
    }

    private static HeatBatches some() {
        HeatBatches x = Check.withJobs(0, 4, 10, 0, 6, 20, 1, 5, 12, 1, 6, 30, 2, 9, 25);
        x.image(1);
        x.due(0, 11);
        return Check.say(x, "01/2");
    }

    private static HeatBatches seven() {
        return Check.withJobs(0, 1, 1, 0, 1, 2, 1, 1, 3, 1, 1, 4, 2, 1, 5, 2, 1, 6, 2, 1, 7);
    }

    private static void newObject() {
        HeatBatches x = new HeatBatches();
        int[] whats = {0, 1, 2, 3, 4, 5, 6, 7, 10, 11, 12, 20, 21, 22};
        int[] wants = {0, 0, 10, 1, 1, 0, 0, 0, 3, 6, 9, 5, 5, 5};
        for (int i = 0; i < whats.length; i++) {
            check.due("new: count(" + whats[i] + ")", x.count(whats[i]), wants[i]);
        }
        check.due("new: restore(0)", x.restore(0), STATE);
        check.due("new: restore(1)", x.restore(1), STATE);
        check.due("new: fault()", x.fault(), NONE);
        check.due("new: wipe()", x.wipe(), 0);
        check.due("new: of(0, 0)", x.of(0, 0), UNKNOWN);
        for (int what = 0; what < 5; what++) {
            check.due("new: row(" + what + ")", x.row(what), 0);
        }
    }

    private static void objectsAreApart() {
        HeatBatches one = new HeatBatches();
        HeatBatches other = new HeatBatches();
        one.job(1, 2, 3);
        one.family(0, 0, 7);
        one.family(0, 1, 7);
        one.set(0, 15);
        one.say('0');
        one.image(0);
        check.holds("another object is as new", Check.all(other).equals(Check.all(new HeatBatches())));
    }

    private static void family() {
        HeatBatches x = new HeatBatches();
        int[] heat = {3, 6, 9};
        for (int f = 0; f < 3; f++) {
            check.due("family(f, 0, 0)", x.family(f, 0, 0), heat[f]);
            check.due("family(f, 0, 9)", x.family(f, 0, 9), 0);
            check.due("family(f, 0, 4)", x.family(f, 0, 4), 9);
            check.due("count(10 + f)", x.count(10 + f), 4);
            check.due("family(f, 1, 1)", x.family(f, 1, 1), 5);
            check.due("family(f, 1, 20)", x.family(f, 1, 20), 1);
            check.due("family(f, 1, 20)", x.family(f, 1, 20), 20);
            check.due("count(20 + f)", x.count(20 + f), 20);
            check.due("count(10 + f)", x.count(10 + f), 4);
        }
        HeatBatches y = Check.withJobs(0, 1, 0);
        check.due("best(2)", y.best(2), 8);
        y.family(0, 0, 5);
        check.due("best(2) with more heat", y.best(2), 10);
        y.family(0, 1, 6);
        check.due("best(2) with more cook", y.best(2), 11);
        y.family(1, 1, 20);
        check.due("best(2) with cook of another", y.best(2), 11);
    }

    private static void familyRefused() {
        check.refused(FamiliesAndJobsTest::some, "family(-1, 0, 1)", x -> x.family(-1, 0, 1), UNKNOWN);
        check.refused(FamiliesAndJobsTest::some, "family(3, 0, 1)", x -> x.family(3, 0, 1), UNKNOWN);
        check.refused(FamiliesAndJobsTest::some, "family(3, 2, 99)", x -> x.family(3, 2, 99), UNKNOWN);
        check.refused(FamiliesAndJobsTest::some, "family(0, 0, -1)", x -> x.family(0, 0, -1), OUTSIDE);
        check.refused(FamiliesAndJobsTest::some, "family(0, 0, 10)", x -> x.family(0, 0, 10), OUTSIDE);
        check.refused(FamiliesAndJobsTest::some, "family(0, 1, 0)", x -> x.family(0, 1, 0), OUTSIDE);
        check.refused(FamiliesAndJobsTest::some, "family(0, 1, 21)", x -> x.family(0, 1, 21), OUTSIDE);
        check.refused(FamiliesAndJobsTest::some, "family(0, -1, 5)", x -> x.family(0, -1, 5), OUTSIDE);
        check.refused(FamiliesAndJobsTest::some, "family(0, 2, 5)", x -> x.family(0, 2, 5), OUTSIDE);
        for (int far : FAR) {
            check.refused(FamiliesAndJobsTest::some, "family(far, 0, 1)", x -> x.family(far, 0, 1), UNKNOWN);
            check.refused(FamiliesAndJobsTest::some, "family(0, far, 1)", x -> x.family(0, far, 1), OUTSIDE);
            check.refused(FamiliesAndJobsTest::some, "family(0, 1, far)", x -> x.family(0, 1, far), OUTSIDE);
        }
    }

    private static void set() {
        HeatBatches x = new HeatBatches();
        check.due("set(0, 9)", x.set(0, 9), 10);
        check.due("set(0, 20)", x.set(0, 20), 9);
        check.due("set(0, 12)", x.set(0, 12), 20);
        check.due("set(1, 0)", x.set(1, 0), 1);
        check.due("set(1, 3)", x.set(1, 3), 0);
        check.due("set(2, 3)", x.set(2, 3), 1);
        check.due("set(2, 0)", x.set(2, 0), 3);
        check.due("count(2)", x.count(2), 12);
        check.due("count(3)", x.count(3), 3);
        check.due("count(4)", x.count(4), 0);
        // up to 9 and down to 3, or up to 3, up to 9: cook 5 twice
        HeatBatches y = Check.say(Check.withJobs(2, 5, 0, 0, 5, 0), "0/1");
        check.due("row(2)", y.row(2), 9 + 5 + 6 + 5);
        y.set(1, 2);
        check.due("row(2), up 2", y.row(2), 18 + 5 + 6 + 5);
        y.set(2, 3);
        check.due("row(2), up 2, down 3", y.row(2), 18 + 5 + 18 + 5);
        check.due("best(2), up 2, down 3", y.best(2), 6 + 5 + 12 + 5);
        y.set(1, 0);
        y.set(2, 0);
        check.due("row(2), up 0, down 0", y.row(2), 10);
    }

    private static void setRefused() {
        int[][] wrong = {{0, 8}, {0, 21}, {1, -1}, {1, 4}, {2, -1}, {2, 4}, {-1, 1}, {3, 1}, {3, 10}, {0, 1}, {0, 3}};
        for (int[] w : wrong) {
            check.refused(FamiliesAndJobsTest::some, "set(" + w[0] + ", " + w[1] + ")", x -> x.set(w[0], w[1]), OUTSIDE);
        }
        for (int far : FAR) {
            check.refused(FamiliesAndJobsTest::some, "set(far, 1)", x -> x.set(far, 1), OUTSIDE);
            check.refused(FamiliesAndJobsTest::some, "set(0, far)", x -> x.set(0, far), OUTSIDE);
        }
    }

    private static void job() {
        HeatBatches x = new HeatBatches();
        int[][] jobs = {{0, 1, 0}, {1, 9, 99}, {2, 5, 50}, {0, 2, 7}, {0, 2, 7}, {2, 9, 0}, {1, 1, 99}};
        for (int j = 0; j < jobs.length; j++) {
            check.due("job " + j, x.job(jobs[j][0], jobs[j][1], jobs[j][2]), j);
            check.due("count(0)", x.count(0), j + 1);
        }
        for (int j = 0; j < jobs.length; j++) {
            for (int what = 0; what < 3; what++) {
                check.due("of(" + j + ", " + what + ")", x.of(j, what), jobs[j][what]);
            }
        }
        check.due("an eighth job", x.job(0, 1, 1), FULL);
        x.drop(3);
        check.due("one more behind a drop", x.job(1, 3, 4), 6);
        check.due("of(6, 1)", x.of(6, 1), 3);
    }

    private static void jobRefused() {
        int[][] wrong = {{-1, 1, 1, UNKNOWN}, {3, 1, 1, UNKNOWN}, {3, 0, 100, UNKNOWN}, {0, 0, 1, OUTSIDE},
            {0, 10, 1, OUTSIDE}, {0, 1, -1, OUTSIDE}, {0, 1, 100, OUTSIDE}};
        for (int[] w : wrong) {
            String call = "job(" + w[0] + ", " + w[1] + ", " + w[2] + ")";
            check.refused(FamiliesAndJobsTest::some, call, x -> x.job(w[0], w[1], w[2]), w[3]);
            check.refused(FamiliesAndJobsTest::seven, call + " beside 7", x -> x.job(w[0], w[1], w[2]), w[3]);
        }
        check.refused(FamiliesAndJobsTest::seven, "job(0, 1, 1) beside 7", x -> x.job(0, 1, 1), FULL);
        for (int far : FAR) {
            check.refused(FamiliesAndJobsTest::some, "job(far, 1, 1)", x -> x.job(far, 1, 1), UNKNOWN);
            check.refused(FamiliesAndJobsTest::some, "job(0, far, 1)", x -> x.job(0, far, 1), OUTSIDE);
            check.refused(FamiliesAndJobsTest::some, "job(0, 1, far)", x -> x.job(0, 1, far), OUTSIDE);
        }
    }

    private static void drop() {
        HeatBatches x = Check.withJobs(0, 1, 10, 1, 2, 20, 2, 3, 30, 0, 4, 40);
        check.due("drop(1)", x.drop(1), 3);
        check.due("of(0, 2)", x.of(0, 2), 10);
        check.due("of(1, 0)", x.of(1, 0), 2);
        check.due("of(1, 1)", x.of(1, 1), 3);
        check.due("of(1, 2)", x.of(1, 2), 30);
        check.due("of(2, 2)", x.of(2, 2), 40);
        check.due("of(3, 2)", x.of(3, 2), UNKNOWN);
        check.due("best(3)", x.best(3), 2);
        check.due("drop(2)", x.drop(2), 2);
        check.due("drop(2) again", x.drop(2), UNKNOWN);
        check.due("drop(0)", x.drop(0), 1);
        check.due("of(0, 2)", x.of(0, 2), 30);
        check.due("drop(0)", x.drop(0), 0);
        check.due("drop(0) without jobs", x.drop(0), UNKNOWN);
        check.due("best(2) without jobs", x.best(2), 0);
        check.refused(FamiliesAndJobsTest::some, "drop(-1)", y -> y.drop(-1), UNKNOWN);
        check.refused(FamiliesAndJobsTest::some, "drop(5)", y -> y.drop(5), UNKNOWN);
        for (int far : FAR) {
            check.refused(FamiliesAndJobsTest::some, "drop(far)", y -> y.drop(far), UNKNOWN);
        }
    }

    private static void dropAndThePad() {
        HeatBatches x = Check.say(Check.withJobs(0, 1, 10, 1, 2, 20, 2, 3, 30), "1/2");
        check.due("row(4)", x.row(4), 6);
        check.due("drop(0)", x.drop(0), 2);
        check.due("count(5)", x.count(5), 3);
        check.due("fault(): job 2 is no more", x.fault(), 2);
        x.job(0, 1, 1);
        check.due("fault(): there is a job 2 again", x.fault(), NONE);
    }

    private static void due() {
        HeatBatches x = Check.withJobs(0, 1, 10, 1, 2, 20);
        check.due("best(1)", x.best(1), 0);
        check.due("due(0, 0)", x.due(0, 0), 10);
        check.due("best(1), due at 0", x.best(1), 8);
        check.due("due(0, 99)", x.due(0, 99), 0);
        check.due("due(0, 99)", x.due(0, 99), 99);
        check.due("of(0, 2)", x.of(0, 2), 99);
        check.due("of(1, 2)", x.of(1, 2), 20);
        int[][] wrong = {{-1, 1, UNKNOWN}, {5, 1, UNKNOWN}, {5, 100, UNKNOWN}, {0, -1, OUTSIDE}, {4, 100, OUTSIDE}};
        for (int[] w : wrong) {
            check.refused(FamiliesAndJobsTest::some, "due(" + w[0] + ", " + w[1] + ")", y -> y.due(w[0], w[1]), w[2]);
        }
        for (int far : FAR) {
            check.refused(FamiliesAndJobsTest::some, "due(far, 1)", y -> y.due(far, 1), UNKNOWN);
            check.refused(FamiliesAndJobsTest::some, "due(1, far)", y -> y.due(1, far), OUTSIDE);
        }
    }

    private static void of() {
        HeatBatches x = Check.withJobs(2, 4, 33);
        check.due("of(0, 0)", x.of(0, 0), 2);
        check.due("of(0, 1)", x.of(0, 1), 4);
        check.due("of(0, 2)", x.of(0, 2), 33);
        check.due("of(0, 3)", x.of(0, 3), 107);
        check.due("of(0, -1)", x.of(0, -1), OUTSIDE);
        check.due("of(0, 4)", x.of(0, 4), OUTSIDE);
        check.due("of(1, 0)", x.of(1, 0), UNKNOWN);
        check.due("of(-1, 0)", x.of(-1, 0), UNKNOWN);
        check.due("of(1, 4)", x.of(1, 4), UNKNOWN);
        for (int far : FAR) {
            check.due("of(far, 0)", x.of(far, 0), UNKNOWN);
            check.due("of(0, far)", x.of(0, far), OUTSIDE);
        }
    }

    private static void tightIsTakenDown() {
        // COOK 5: -5 by 1, by 2, by 9; -1 by 2; 0 by 2; 1 by 2; 94 by 9
        int[][] rows = {{1, 0, 95}, {2, 0, 97}, {9, 0, 99}, {2, 4, 99}, {2, 5, 100}, {2, 6, 100}, {9, 99, 110}};
        for (int[] row : rows) {
            HeatBatches x = Check.withJobs(0, row[0], row[1]);
            check.due("of(0, 3), volume " + row[0] + ", due " + row[1], x.of(0, 3), row[2]);
        }
        HeatBatches x = Check.withJobs(1, 1, 0, 1, 7, 6, 1, 1, 99);
        x.family(1, 1, 20);
        check.due("of(0, 3), cook 20", x.of(0, 3), 80);
        check.due("of(1, 3), -14 by 7", x.of(1, 3), 98);
        x.family(1, 1, 1);
        check.due("of(2, 3), 98 by 1", x.of(2, 3), 198);
    }
}
