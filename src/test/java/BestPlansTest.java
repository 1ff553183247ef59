/** Promises 8 to 11. */
public final class BestPlansTest {
    private static final int UNKNOWN = -1, OUTSIDE = -2, NONE = -6;
    private static final int[] FAR = {Integer.MIN_VALUE, -1000, 1000, Integer.MAX_VALUE};

    private static final Check check = new Check("BestPlansTest");

    public static void main(String[] args) {
        withoutJobs();
        best();
        planIsTheFirst();
        planByWorstMayWaste();
        furnaceOfOneHeat();
        theLongestTimes();
        crowdedSearches();
        answersFollowChanges();
        slack();
        slackPastJumps();
        refusals();
        check.finish();
    }

    private static void plan(HeatBatches x, int measure, int... sets) {
        check.due("plan(" + measure + ", -1)", x.plan(measure, -1), sets.length);
        for (int b = 0; b < sets.length; b++) {
            check.due("plan(" + measure + ", " + b + ")", x.plan(measure, b), sets[b]);
        }
        check.due("plan(" + measure + ", " + sets.length + ")", x.plan(measure, sets.length), NONE);
    }

    private static void bests(HeatBatches x, int worst, int sum, int time, int batches) {
        check.due("best(0)", x.best(0), worst);
        check.due("best(1)", x.best(1), sum);
        check.due("best(2)", x.best(2), time);
        check.due("best(3)", x.best(3), batches);
    }

    private static void withoutJobs() {
        HeatBatches x = new HeatBatches();
        bests(x, 0, 0, 0, 0);
        for (int measure = 0; measure < 4; measure++) {
            plan(x, measure);
        }
    }

    private static void best() {
        // together they would not fit: one of the two ends at 8, the other at 13
        HeatBatches x = Check.withJobs(0, 6, 7, 0, 5, 9);
        bests(x, 4, 5, 13, 2);
        plan(x, 0, 1, 2);
        plan(x, 1, 1, 2);
        check.due("end(0, 0)", x.end(0, 0), 8);
        check.due("end(1, 0)", x.end(1, 0), 13);
        // room for both: one batch, that ends at 8
        x.set(0, 11);
        bests(x, 1, 1, 8, 1);
        check.due("end(1, 0)", x.end(1, 0), 8);
        plan(x, 1, 3);
        plan(x, 2, 3);
        plan(x, 3, 3);
    }

    private static void planIsTheFirst() {
        // never late: the first of all plans is taken, whatever time it wants
        HeatBatches x = Check.withJobs(2, 1, 99, 0, 1, 99, 2, 1, 99);
        plan(x, 0, 1, 2, 4);
        plan(x, 1, 1, 2, 4);
        check.due("end(0, 1)", x.end(0, 1), 14);
        check.due("end(1, 1)", x.end(1, 1), 25);
        check.due("end(2, 1)", x.end(2, 1), 36);
        // by time: up to 3, up to 9; by batches: set 2 is less than set 5
        plan(x, 2, 2, 5);
        plan(x, 3, 2, 5);
        check.due("best(2)", x.best(2), 19);
        check.due("end(0, 2)", x.end(0, 2), 19);
        check.due("end(1, 2)", x.end(1, 2), 8);
        // without UP and DOWN both orders take the same time
        x.set(1, 0);
        x.set(2, 0);
        check.due("best(2), up 0, down 0", x.best(2), 10);
        plan(x, 2, 2, 5);
        // sets, not the jobs one by one: {1} ahead of {0, 2}, and {0, 1} ahead of {2}
        HeatBatches y = Check.withJobs(0, 5, 0, 0, 5, 0, 0, 5, 0);
        plan(y, 3, 1, 6);
        plan(y, 1, 3, 4);
        plan(y, 0, 1, 6);
    }

    private static void planByWorstMayWaste() {
        // job 2 can not be helped: late by 14 - 0; the others may come as late
        HeatBatches x = Check.withJobs(0, 5, 20, 0, 5, 20, 2, 9, 0);
        check.due("best(0)", x.best(0), 14);
        plan(x, 0, 4, 1, 2);
        check.due("end(1, 0)", x.end(1, 0), 14 + 11 + 5);
        check.due("best(1)", x.best(1), 19);
        check.due("best(2)", x.best(2), 19);
        plan(x, 1, 3, 4);
    }

    private static void furnaceOfOneHeat() {
        HeatBatches x = Check.withJobs(0, 9, 0, 1, 9, 0, 2, 9, 0);
        for (int family = 0; family < 3; family++) {
            x.family(family, 0, 0);
            x.family(family, 1, 20 - family);
        }
        bests(x, 57, 18 + 37 + 57, 57, 3);
        plan(x, 0, 1, 2, 4);
        plan(x, 1, 4, 2, 1);
        plan(x, 2, 1, 2, 4);
    }

    /** Seven batches as slow as can be, each due at 0 or at 99, held against the reference. */
    private static void theLongestTimes() {
        HeatBatches x = new HeatBatches();
        Reference r = new Reference();
        int[][] families = {{0, 0, 0}, {0, 1, 20}, {1, 0, 9}, {1, 1, 20}};
        for (int[] f : families) {
            check.due("family", x.family(f[0], f[1], f[2]), r.family(f[0], f[1], f[2]));
        }
        check.due("set(1, 3)", x.set(1, 3), r.set(1, 3));
        check.due("set(2, 3)", x.set(2, 3), r.set(2, 3));
        int[] dues = {0, 99, 99, 0, 50, 99, 1};
        for (int j = 0; j < 7; j++) {
            check.due("job", x.job(1 - j % 2, 9, dues[j]), r.job(1 - j % 2, 9, dues[j]));
        }
        for (int measure = 0; measure < 4; measure++) {
            check.due("best(" + measure + ")", x.best(measure), r.best(measure));
            for (int b = -1; b < 8; b++) {
                check.due("plan(" + measure + ", " + b + ")", x.plan(measure, b), r.plan(measure, b));
            }
            for (int j = 0; j < 7; j++) {
                check.due("end(" + j + ", " + measure + ")", x.end(j, measure), r.end(j, measure));
            }
        }
        Check.say(x, "0/1/2/3/4/5/6");
        for (int sign : "0/1/2/3/4/5/6".toCharArray()) {
            r.say(sign);
        }
        for (int what = 0; what < 5; what++) {
            check.due("row(" + what + ")", x.row(what), r.row(what));
        }
        check.due("row(2), the longest there is", x.row(2), 7 * (3 * 9 + 20));
    }

    /**
     * Shops in which a new object's search finds so much that its table has no place for all of it: held against the
     * reference. Each row: HEAT and COOK by families, ROOM, UP, DOWN, then FAMILY, VOLUME, DUE of the jobs.
     */
    private static void crowdedSearches() {
        int[][] shops = {
            {6, 19, 3, 4, 5, 18, 14, 2, 3, 0, 2, 49, 1, 1, 85, 0, 4, 58, 2, 3, 18, 0, 2, 43, 1, 3, 8, 2, 5, 1},
            {0, 7, 6, 4, 9, 15, 12, 3, 2, 2, 2, 88, 1, 5, 88, 1, 4, 3, 0, 3, 36, 1, 1, 97, 2, 9, 61, 1, 3, 4},
            {2, 20, 6, 19, 3, 19, 14, 3, 3, 1, 2, 83, 1, 1, 12, 0, 7, 90, 1, 4, 81, 1, 7, 3, 2, 3, 54, 0, 2, 3},
            {3, 4, 0, 19, 8, 15, 18, 3, 3, 0, 6, 11, 0, 7, 52, 2, 2, 77, 2, 1, 64, 2, 9, 56, 0, 1, 79, 1, 7, 8}};
        for (int[] s : shops) {
            HeatBatches x = new HeatBatches();
            Reference r = new Reference();
            for (int i = 0; i < 6; i++) {
                check.due("family", x.family(i / 2, i % 2, s[i]), r.family(i / 2, i % 2, s[i]));
            }
            for (int what = 0; what < 3; what++) {
                check.due("set", x.set(what, s[6 + what]), r.set(what, s[6 + what]));
            }
            for (int i = 9; i < s.length; i += 3) {
                check.due("job", x.job(s[i], s[i + 1], s[i + 2]), r.job(s[i], s[i + 1], s[i + 2]));
            }
            for (int measure = 0; measure < 4; measure++) {
                check.due("best(" + measure + ")", x.best(measure), r.best(measure));
                for (int b = -1; b < 7; b++) {
                    check.due("plan(" + measure + ", " + b + ")", x.plan(measure, b), r.plan(measure, b));
                }
            }
        }
    }

    private static void answersFollowChanges() {
        HeatBatches x = Check.withJobs(0, 6, 7, 0, 4, 9);
        check.due("best(1)", x.best(1), 1);
        x.job(1, 9, 10);
        check.due("best(1), a job more", x.best(1), 1 + 6);
        x.due(2, 11);
        check.due("best(1), due later", x.best(1), 1 + 5);
        x.family(1, 1, 4);
        check.due("best(1), less cook", x.best(1), 1 + 4);
        x.family(1, 0, 4);
        check.due("best(1), less heat", x.best(1), 1 + 2);
        x.image(0);
        x.drop(0);
        check.due("best(1), a job less", x.best(1), 2);
        x.set(1, 2);
        check.due("best(1), up 2", x.best(1), 2 + 6);
        x.restore(0);
        check.due("best(1), restored", x.best(1), 1 + 2);
        x.set(0, 9);
        check.due("best(1), less room", x.best(1), 1 + 4 + 7);
        check.due("plan(1, -1)", x.plan(1, -1), 3);
    }

    private static void slack() {
        HeatBatches x = Check.withJobs(0, 6, 20, 0, 5, 9);
        check.due("best(0)", x.best(0), 0);
        check.due("best(1)", x.best(1), 0);
        check.due("slack(0, 0)", x.slack(0, 0), 7);
        check.due("slack(0, 1)", x.slack(0, 1), 7);
        check.due("slack(1, 0)", x.slack(1, 0), 1);
        check.due("slack(1, 1)", x.slack(1, 1), 1);
        check.due("slack(0, 2)", x.slack(0, 2), 20);
        check.due("slack(0, 3)", x.slack(0, 3), 20);
        check.due("slack(1, 2)", x.slack(1, 2), 9);
        check.due("of(0, 2)", x.of(0, 2), 20);
        check.due("of(1, 2)", x.of(1, 2), 9);
        check.due("best(1)", x.best(1), 0);
        plan(x, 1, 2, 1);
        // late already: by the sum there is none, by the worst as far as another is as late
        HeatBatches y = Check.withJobs(0, 6, 5, 2, 9, 4);
        check.due("best(0)", y.best(0), 15);
        check.due("slack(0, 0)", y.slack(0, 0), 5);
        check.due("slack(1, 0)", y.slack(1, 0), 0);
        check.due("slack(0, 1)", y.slack(0, 1), 0);
        // due at 0: nothing can be less
        HeatBatches z = Check.withJobs(0, 1, 0);
        for (int measure = 0; measure < 4; measure++) {
            check.due("slack(0, " + measure + "), due at 0", z.slack(0, measure), 0);
        }
        // due at 99, all of it or but for its end
        HeatBatches w = Check.withJobs(0, 1, 99);
        check.due("slack(0, 1), due at 99", w.slack(0, 1), 91);
        check.due("slack(0, 3), due at 99", w.slack(0, 3), 99);
    }

    /** Another plan can take over where the first one fails, so that each DUE counts, not one plan's END alone. */
    private static void slackPastJumps() {
        // in THE PLAN job 0 ends at 8, in another, as good one, too late; and the other way round
        HeatBatches x = Check.withJobs(0, 9, 30, 0, 9, 40, 0, 9, 50);
        check.due("end(2, 1)", x.end(2, 1), 18);
        check.due("slack(2, 1)", x.slack(2, 1), 42);
        check.due("slack(1, 1)", x.slack(1, 1), 32);
        check.due("slack(0, 1)", x.slack(0, 1), 22);
        check.due("slack(2, 0)", x.slack(2, 0), 42);
    }

    private static void refusals() {
        HeatBatches x = Check.withJobs(0, 6, 20, 0, 5, 9);
        int[] noMeasures = {-1, 4, Integer.MIN_VALUE, -1000, 1000, Integer.MAX_VALUE};
        for (int no : noMeasures) {
            check.due("best(" + no + ")", x.best(no), OUTSIDE);
            check.due("plan(" + no + ", 0)", x.plan(no, 0), OUTSIDE);
            check.due("plan(" + no + ", -1)", x.plan(no, -1), OUTSIDE);
            check.due("plan(" + no + ", 9)", x.plan(no, 9), OUTSIDE);
            check.due("end(0, " + no + ")", x.end(0, no), OUTSIDE);
            check.due("slack(0, " + no + ")", x.slack(0, no), OUTSIDE);
            check.due("end(2, " + no + ")", x.end(2, no), UNKNOWN);
            check.due("slack(2, " + no + ")", x.slack(2, no), UNKNOWN);
        }
        check.due("plan(0, -2)", x.plan(0, -2), OUTSIDE);
        check.due("plan(0, far below)", x.plan(0, Integer.MIN_VALUE), OUTSIDE);
        check.due("plan(0, 7)", x.plan(0, 7), NONE);
        check.due("plan(0, far above)", x.plan(0, Integer.MAX_VALUE), NONE);
        check.due("end(-1, 0)", x.end(-1, 0), UNKNOWN);
        check.due("slack(-1, 0)", x.slack(-1, 0), UNKNOWN);
        check.due("end(2, 0)", x.end(2, 0), UNKNOWN);
        check.due("slack(2, 0)", x.slack(2, 0), UNKNOWN);
        for (int far : FAR) {
            check.due("end(far, 0)", x.end(far, 0), UNKNOWN);
            check.due("slack(far, 0)", x.slack(far, 0), UNKNOWN);
        }
    }
}
