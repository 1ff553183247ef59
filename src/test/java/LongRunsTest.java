import java.util.Random;

/** Runs of 512 calls, of the dearest or of numbers from anywhere: each comes to an end and none throws. */
public final class LongRunsTest {
    private static final int CALLS = 512;
    private static final Check check = new Check("LongRunsTest");

    public static void main(String[] args) {
        slackAgainAndAgain(1, 1);
        slackAgainAndAgain(3, 9);
        sameAnswersFromOldAndNew();
        numbersFromAnywhere();
        check.finish();
    }

    /** Each slack is asked of an object that was changed just before, so that nothing found before can be used. */
    private static void slackAgainAndAgain(int families, int volumes) {
        Random random = new Random(families);
        HeatBatches x = new HeatBatches();
        for (int job = 0; job < 7; job++) {
            x.job(random.nextInt(families), 1 + random.nextInt(volumes), 30 + 10 * job);
        }
        x.family(0, 1, 13);
        x.family(1, 1, 17);
        x.set(0, 20);
        for (int call = 0; call < CALLS / 2 - 8; call++) {
            x.due(random.nextInt(7), random.nextInt(100));
            int job = random.nextInt(7);
            int measure = random.nextInt(2);
            int slack = x.slack(job, measure);
            check.holds("slack is 0 to DUE", slack >= 0 && slack <= x.of(job, 2));
        }
    }

    /** What an object has answered before leaves no trace in what it answers now. */
    private static void sameAnswersFromOldAndNew() {
        Random random = new Random(9);
        HeatBatches old = Check.withJobs(0, 3, 10, 1, 3, 20, 2, 3, 30, 0, 4, 40, 1, 4, 50, 2, 4, 60, 0, 5, 70);
        int[] dues = {10, 20, 30, 40, 50, 60, 70};
        for (int round = 0; round < 60; round++) {
            int job = random.nextInt(7);
            dues[job] = random.nextInt(100);
            old.due(job, dues[job]);
            HeatBatches fresh = Check.withJobs(0, 3, dues[0], 1, 3, dues[1], 2, 3, dues[2], 0, 4, dues[3],
                    1, 4, dues[4], 2, 4, dues[5], 0, 5, dues[6]);
            for (int measure = 0; measure < 2; measure++) {
                check.due("slack", old.slack(job, measure), fresh.slack(job, measure));
                check.due("plan", old.plan(measure, 2), fresh.plan(measure, 2));
                check.due("best", old.best(measure), fresh.best(measure));
            }
        }
    }

    private static int anywhere(Random random) {
        int kind = random.nextInt(8);
        if (kind == 0) return random.nextInt();
        if (kind == 1) return Integer.MIN_VALUE + random.nextInt(3);
        if (kind == 2) return Integer.MAX_VALUE - random.nextInt(3);
        return random.nextInt(kind < 6 ? 10 : 130) - 2;
    }

    private static void numbersFromAnywhere() {
        for (int seed = 0; seed < 200; seed++) {
            Random random = new Random(seed);
            HeatBatches x = new HeatBatches();
            for (int call = 0; call < CALLS; call++) {
                int answer = any(x, random.nextInt(24), anywhere(random), anywhere(random), anywhere(random));
                check.holds("an answer of " + answer, answer >= FAULT && answer != -5);
            }
        }
    }

    private static final int FAULT = HeatBatches.FAULT;

    private static int any(HeatBatches x, int which, int a, int b, int c) {
        switch (which) {
            case 0: return x.family(a, b, c);
            case 1: return x.set(a, b);
            case 2: case 3: case 4: return x.job(a, b, c);
            case 5: return x.drop(a);
            case 6: return x.due(a, b);
            case 7: return x.of(a, b);
            case 8: return x.best(a);
            case 9: return x.plan(a, b);
            case 10: return x.end(a, b);
            case 11: return x.slack(a, b);
            case 12: return x.rule(a);
            case 13: return x.ruled(a);
            case 14: return x.say(a);
            case 15: return x.say(47 + (a & 7));
            case 16: return x.wipe();
            case 17: return x.fault();
            case 18: return x.row(a);
            case 19: return x.at(a);
            case 20: return x.put(a, b);
            case 21: return x.image(a);
            case 22: return x.restore(a);
            default: return x.count(a);
        }
    }
}
