/** Promises 12 and 13. */
public final class RuleTest {
    private static final int OUTSIDE = -2, NONE = -6;

    private static final Check check = new Check("RuleTest");

    public static void main(String[] args) {
        withoutJobs();
        byTightNotByDue();
        alikeByNumbers();
        fillsUpPastOneThatDoesNotFit();
        sevenJobs();
        asThingsAre();
        refusals();
        check.finish();
    }

    private static void rule(HeatBatches x, int... sets) {
        check.due("rule(-1)", x.rule(-1), sets.length);
        for (int b = 0; b < sets.length; b++) {
            check.due("rule(" + b + ")", x.rule(b), sets[b]);
        }
        check.due("rule(" + sets.length + ")", x.rule(sets.length), NONE);
    }

    private static void ruled(HeatBatches x, int... wants) {
        for (int measure = 0; measure < 4; measure++) {
            check.due("ruled(" + measure + ")", x.ruled(measure), wants[measure]);
        }
    }

    private static void withoutJobs() {
        HeatBatches x = new HeatBatches();
        rule(x);
        ruled(x, 0, 0, 0, 0);
    }

    private static void byTightNotByDue() {
        // TIGHT 15, 3, 2: job 2 first, though job 0 is due first; job 0 goes in with job 1
        HeatBatches x = Check.withJobs(0, 1, 20, 0, 9, 32, 2, 9, 26);
        rule(x, 4, 3);
        ruled(x, 5, 5, 25, 2);
        x.set(0, 9);
        rule(x, 4, 2, 1);
        ruled(x, 10, 10, 30, 3);
    }

    private static void alikeByNumbers() {
        // TIGHT 0 of all, though the last is due first
        HeatBatches x = Check.withJobs(1, 9, 9, 0, 9, 8, 0, 9, 7, 1, 9, 6, 2, 9, 5);
        rule(x, 1, 2, 4, 8, 16);
        HeatBatches y = Check.withJobs(0, 5, 9, 0, 5, 8, 0, 5, 7, 0, 5, 6);
        rule(y, 3, 12);
        ruled(y, 7, 0 + 0 + 6 + 7, 13, 2);
        // below 0, too, TIGHT is taken down: -1 by 2 and -2 by 2 are alike
        HeatBatches z = Check.withJobs(0, 2, 4, 1, 2, 3);
        rule(z, 1, 2);
    }

    private static void fillsUpPastOneThatDoesNotFit() {
        // TIGHT 0, 1, 2, 15 and, of family 1, 0; into room 10 go 0, 2, 3, then 4 by itself, then 1
        HeatBatches x = Check.withJobs(0, 6, 5, 0, 6, 11, 0, 3, 11, 0, 1, 20, 1, 1, 5);
        rule(x, 13, 16, 2);
        // 8; 8 + 3 + 5; 16 + 3 + 5
        ruled(x, 13, 3 + 0 + 0 + 11 + 13, 24, 3);
        x.set(0, 9);
        rule(x, 5, 16, 10);
        x.set(0, 16);
        rule(x, 15, 16);
    }

    private static void sevenJobs() {
        HeatBatches x = Check.withJobs(0, 9, 99, 0, 9, 89, 0, 9, 79, 0, 9, 69, 0, 9, 59, 0, 9, 49, 0, 9, 0);
        rule(x, 64, 32, 16, 8, 4, 2, 1);
        ruled(x, 8, 8, 38, 7);
        HeatBatches y = Check.withJobs(1, 1, 9, 1, 2, 8, 1, 1, 7, 1, 2, 6, 1, 1, 5, 1, 2, 4, 1, 1, 3);
        rule(y, 127);
        ruled(y, 8, 2 + 3 + 4 + 5 + 6 + 7 + 8, 11, 1);
    }

    private static void asThingsAre() {
        HeatBatches x = Check.withJobs(0, 5, 20, 1, 5, 25);
        rule(x, 1, 2);
        x.family(1, 1, 20);
        rule(x, 2, 1);
        x.due(0, 5);
        rule(x, 1, 2);
        x.drop(0);
        rule(x, 1);
        ruled(x, 1, 1, 26, 1);
    }

    private static void refusals() {
        HeatBatches x = Check.withJobs(0, 5, 20, 1, 5, 25);
        check.due("rule(-2)", x.rule(-2), OUTSIDE);
        check.due("rule(far below)", x.rule(Integer.MIN_VALUE), OUTSIDE);
        check.due("rule(7)", x.rule(7), NONE);
        check.due("rule(far above)", x.rule(Integer.MAX_VALUE), NONE);
        for (int no : new int[] {-1, 4, Integer.MIN_VALUE, Integer.MAX_VALUE}) {
            check.due("ruled(" + no + ")", x.ruled(no), OUTSIDE);
        }
    }
}
