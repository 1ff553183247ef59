/** Promises 8 to 11, with what a BATCH, a PLAN, LATE and BEST are by parts 1 and 2 of "Terms". */
public final class PlanBoundsTest {
    private static final int UNKNOWN = Sentences.UNKNOWN, OUTSIDE = Sentences.OUTSIDE, NONE = Sentences.NONE;

    private static final String SOME = States.SOME, SEVEN = States.SEVEN;

    private static final Sentences doc = new Sentences("PlanBoundsTest");

    public static void main(String[] args) {
        oneJobOrMore();
        oneFamily();
        noMoreThanRoom();
        beginsCold();
        heatsUpAndCoolsDown();
        nextBeginsAtEnd();
        lateIsNeverBelowNone();
        worstIsTheGreatest();
        sumIsAll();
        timeIsTheLastEnd();
        wholeHasEachJob();
        firstByLesserSets();
        bestIsTheLeast();
        theLongestTimes();
        bestRefused();
        planWithin();
        planRefused();
        endOfEach();
        endRefused();
        slackOfOne();
        slackByWorst();
        slackBySum();
        slackIsJustSoMuch();
        slackRefused();
        doc.finish();
    }

    private static void plan(Run run, int measure, int... sets) {
        doc.due(run, "plan(" + measure + ", -1)", sets.length);
        for (int b = 0; b < sets.length; b++) {
            doc.due(run, "plan(" + measure + ", " + b + ")", sets[b]);
        }
        doc.due(run, "plan(" + measure + ", " + sets.length + ")", NONE);
    }

    private static void bests(Run run, int worst, int sum, int time, int batches) {
        doc.due(run, "best(0)", worst, "best(1)", sum, "best(2)", time, "best(3)", batches);
    }

    /** Jobs of one family, due at 99, as few as can be but two at the least, whose volumes come to that. */
    private static String jobsOfVolume(int volume) {
        StringBuilder jobs = new StringBuilder();
        int left = volume;
        for (int n = 0; left > 0; n++) {
            int one = Math.min(9, n == 0 ? left - 1 : left);
            jobs.append("job(0, ").append(one).append(", 99); ");
            left -= one;
        }
        return jobs.toString();
    }

    // ---- part 1: batches

    private static void oneJobOrMore() {
        doc.sentence("A BATCH: one JOB or more");
        bests(Run.of(), 0, 0, 0, 0);
        Run one = Run.of("job(0, 9, 8)");
        bests(one, 0, 0, 8, 1);
        for (int measure = 0; measure < 4; measure++) {
            plan(one, measure, 1);
        }
        // all seven in one
        StringBuilder seven = new StringBuilder("set(0, 9); ");
        for (int j = 0; j < 7; j++) {
            seven.append("job(2, 1, 14); ");
        }
        Run all = Run.of(seven.toString());
        bests(all, 0, 0, 14, 1);
        for (int measure = 0; measure < 4; measure++) {
            plan(all, measure, 127);
        }
    }

    private static void oneFamily() {
        doc.sentence("all of one FAMILY");
        // alike in heat and cook, and room for both: two families all the same
        Run run = Run.of("family(1, 0, 3); set(0, 20); job(0, 1, 0); job(1, 1, 0)");
        bests(run, 13, 8 + 13, 13, 2);
        plan(run, 2, 1, 2);
        doc.due(run, "rule(-1)", 2, "rule(0)", 1, "rule(1)", 2, "say(48)", 1, "say(49)", 2, "fault()", 1);
        doc.due(Run.of("family(1, 0, 3); set(0, 20); job(0, 1, 0); job(1, 1, 0); pad(0)"), "put(1, 0)", 21, "put(1, 1)", 0);
    }

    private static void noMoreThanRoom() {
        doc.sentence("VOLUMES of which, added, are no more than ROOM.");
        for (int room = 9; room <= 20; room++) {
            Run full = Run.of("set(0, " + room + ")", jobsOfVolume(room));
            bests(full, 0, 0, 8, 1);
            int jobs = full.ask("count(0)");
            plan(full, 3, (1 << jobs) - 1);
            doc.due(full, "count(1)", room, "rule(-1)", 1);
            Run over = Run.of("set(0, " + room + ")", jobsOfVolume(room + 1));
            bests(over, 0, 0, 13, 2);
            doc.due(over, "count(1)", room + 1, "rule(-1)", 2, "ruled(3)", 2);
        }
        // the most and the least room for seven of volume 9
        String seven = "job(0, 9, 0); job(0, 9, 0); job(0, 9, 0); job(0, 9, 0); job(0, 9, 0); job(0, 9, 0); job(0, 9, 0)";
        int[] rooms = {9, 17, 18, 20};
        int[] batches = {7, 7, 4, 4};
        for (int i = 0; i < rooms.length; i++) {
            doc.due(Run.of(seven, "set(0, " + rooms[i] + ")"), "best(3)", batches[i], "best(2)", 3 + 5 * batches[i]);
        }
    }

    // ---- part 1: plans

    private static void beginsCold() {
        doc.sentence("It begins at time 0, with a furnace of HEAT 0.");
        for (int up = 0; up <= 3; up++) {
            for (int heat : new int[] {0, 1, 8, 9}) {
                Run run = Run.of("set(1, " + up + "); set(2, 3); family(1, 0, " + heat + "); family(1, 1, 1)",
                        "job(1, 9, 0); pad(0)");
                int end = up * heat + 1;
                doc.due(run, "best(2)", end, "end(0, 0)", end, "best(0)", end, "best(1)", end, "ruled(2)", end,
                        "row(2)", end, "at(0)", end);
            }
        }
    }

    private static void heatsUpAndCoolsDown() {
        doc.sentence("UP times by how much, if it is less, DOWN times by how much; then COOK of its FAMILY.");
        int[] heats = {0, 1, 4, 9};
        for (int pace = 0; pace < 16; pace++) {
            int up = pace / 4;
            int down = pace % 4;
            for (int one : heats) {
                for (int other : heats) {
                    Run run = Run.of("set(1, " + up + "); set(2, " + down + ")",
                            "family(0, 0, " + one + "); family(0, 1, 20); family(2, 0, " + other + "); family(2, 1, 1)",
                            "job(0, 9, 0); job(2, 9, 0); pad(0/1)");
                    int first = up * one + 20;
                    int behind = first + (other > one ? up * (other - one) : down * (one - other)) + 1;
                    int turned = up * other + 1 + (one > other ? up * (one - other) : down * (other - one)) + 20;
                    doc.due(run, "at(0)", first, "at(1)", behind, "row(2)", behind, "row(1)", first + behind,
                            "row(0)", behind, "best(2)", Math.min(behind, turned));
                    plan(run, 2, behind <= turned ? 1 : 2, behind <= turned ? 2 : 1);
                }
            }
        }
    }

    private static void nextBeginsAtEnd() {
        doc.sentence("Its END is when both are over, the next one begins then; the furnace has HEAT of that FAMILY.");
        Run run = Run.of("job(0, 9, 99); job(0, 9, 99); job(2, 9, 99); job(1, 9, 99); job(1, 9, 99); pad(0/1/2/3/4)");
        doc.due(run, "at(0)", 8, "at(1)", 13, "at(2)", 24, "at(3)", 32, "at(4)", 37, "row(2)", 37);
        doc.due(run, "end(0, 0)", 8, "end(1, 0)", 13, "end(2, 0)", 24, "end(3, 0)", 32, "end(4, 0)", 37);
    }

    private static void lateIsNeverBelowNone() {
        doc.sentence("LATE of a JOB of a PLAN: END of its BATCH less DUE, 0, if that is below 0.");
        // END is 8
        int[] dues = {0, 6, 7, 8, 9, 99};
        int[] lates = {8, 2, 1, 0, 0, 0};
        for (int i = 0; i < dues.length; i++) {
            Run run = Run.of("job(0, 5, " + dues[i] + ")");
            doc.due(run, "put(0, 0)", lates[i], "say(48)", 1, "row(0)", lates[i], "row(1)", lates[i]);
            bests(run, lates[i], lates[i], 8, 1);
            doc.due(run, "ruled(0)", lates[i], "ruled(1)", lates[i], "ruled(2)", 8, "ruled(3)", 1);
        }
        // what comes out early takes nothing off what is late
        Run both = Run.of("job(0, 5, 99); job(0, 5, 7); pad(01)");
        bests(both, 1, 1, 8, 1);
        doc.due(both, "row(0)", 1, "row(1)", 1, "ruled(0)", 1, "ruled(1)", 1);
        Run apart = Run.of("job(0, 9, 99); job(0, 9, 12); pad(0/1)");
        doc.due(apart, "row(0)", 1, "row(1)", 1);
    }

    private static void worstIsTheGreatest() {
        doc.sentence("WORST of a PLAN: the greatest LATE (0 without JOBS).");
        doc.due(Run.of(), "row(0)", 0, "best(0)", 0, "ruled(0)", 0);
        doc.due(Run.of("job(0, 9, 0)"), "row(0)", 0);
        // ENDS 8, 13, 18: the greatest at the first, between, at the last; in one batch the first or the last
        doc.due(Run.of("job(0, 9, 0); job(0, 9, 6); job(0, 9, 11); pad(0/1/2)"), "row(0)", 8);
        doc.due(Run.of("job(0, 9, 1); job(0, 9, 5); job(0, 9, 11); pad(0/1/2)"), "row(0)", 8);
        doc.due(Run.of("job(0, 9, 1); job(0, 9, 6); job(0, 9, 10); pad(0/1/2)"), "row(0)", 8);
        doc.due(Run.of("job(0, 1, 0); job(0, 1, 3); pad(01)"), "row(0)", 8, "ruled(0)", 8, "best(0)", 8);
        doc.due(Run.of("job(0, 1, 3); job(0, 1, 0); pad(01)"), "row(0)", 8, "ruled(0)", 8, "best(0)", 8);
    }

    private static void sumIsAll() {
        doc.sentence("SUM: all LATE, added.");
        doc.due(Run.of(), "row(1)", 0, "best(1)", 0, "ruled(1)", 0);
        doc.due(Run.of("job(0, 9, 0)"), "row(1)", 0);
        doc.due(Run.of("job(0, 9, 0); job(0, 9, 6); job(0, 9, 11); pad(0/1/2)"), "row(1)", 8 + 7 + 7, "best(1)", 22);
        // of a JOB of the PLAN: one that is not in it is not counted, late as it may be
        doc.due(Run.of("job(0, 9, 0); job(0, 9, 0); pad(0)"), "row(1)", 8, "row(0)", 8);
        doc.due(Run.of("job(0, 1, 0); job(0, 1, 3); job(0, 1, 8); job(0, 1, 99); pad(0123)"), "row(1)", 8 + 5, "ruled(1)", 13,
                "best(1)", 13);
    }

    private static void timeIsTheLastEnd() {
        doc.sentence("TIME: END of the last BATCH (0 without any).");
        doc.due(Run.of(), "row(2)", 0, "best(2)", 0, "ruled(2)", 0, "row(3)", 0, "best(3)", 0, "ruled(3)", 0);
        doc.due(Run.of("job(0, 9, 0)"), "row(2)", 0, "row(3)", 0);
        doc.due(Run.of("job(0, 9, 0); job(0, 9, 0); pad(1)"), "row(2)", 8, "best(2)", 13, "ruled(2)", 13);
    }

    private static void wholeHasEachJob() {
        doc.sentence("A PLAN is WHOLE, if each JOB there is is in it.");
        StringBuilder jobs = new StringBuilder();
        for (int n = 0; n <= 7; n++) {
            Run run = Run.of(jobs.toString());
            for (int measure = 0; measure < 4; measure++) {
                int all = 0;
                int shared = 0;
                int batches = run.ask("plan(" + measure + ", -1)");
                for (int b = 0; b < batches; b++) {
                    int set = run.ask("plan(" + measure + ", " + b + ")");
                    shared |= all & set;
                    all |= set;
                }
                doc.holds(n + " jobs, measure " + measure + ": each in one batch", all == (1 << n) - 1 && shared == 0);
                doc.due(run, "plan(" + measure + ", " + batches + ")", NONE);
            }
            jobs.append("job(").append(n % 3).append(", ").append(3 + n % 4).append(", ").append(12 * n).append("); ");
        }
    }

    private static void firstByLesserSets() {
        doc.sentence("at the first place at which they differ, the BATCH whose set of JOBS is the lesser number.");
        // nothing is late in any order: one by one, as 1 is less than 3, and 2 than 6
        String late = "job(0, 1, 99); job(0, 1, 99); job(0, 1, 99); job(0, 1, 99); job(0, 1, 99); job(0, 1, 99); job(0, 1, 99)";
        plan(Run.of(late), 0, 1, 2, 4, 8, 16, 32, 64);
        plan(Run.of(late), 1, 1, 2, 4, 8, 16, 32, 64);
        plan(Run.of(late), 2, 127);
        plan(Run.of(late), 3, 127);
        // two batches of two each: 3 and 12, ahead of 5 and 10, of 9 and 6
        plan(Run.of("job(0, 5, 0); job(0, 5, 0); job(0, 5, 0); job(0, 5, 0)"), 3, 3, 12);
        // 0 and 1 do not go together: 5 and 10, ahead of 9 and 6, of 6 and 9
        plan(Run.of("job(0, 6, 0); job(0, 6, 0); job(0, 4, 0); job(0, 4, 0)"), 3, 5, 10);
        plan(Run.of("job(0, 6, 0); job(0, 6, 0); job(0, 4, 0); job(0, 4, 0)"), 2, 5, 10);
        // the same at the first place, unlike at the second, or at the third
        plan(Run.of("job(0, 9, 99); job(0, 9, 99); job(0, 9, 8)"), 1, 4, 1, 2);
        plan(Run.of("job(0, 9, 13); job(0, 9, 99); job(0, 9, 8); job(0, 9, 99)"), 1, 4, 1, 2, 8);
        // the lesser set ahead, not the fewer jobs, nor the lesser job: 3 ahead of 4; 4 ahead of 9
        plan(Run.of("job(0, 5, 0); job(0, 5, 0); job(0, 5, 0)"), 1, 3, 4);
        plan(Run.of("job(0, 5, 0); job(1, 9, 0); job(2, 9, 0); job(0, 5, 0)"), 3, 2, 4, 9);
    }

    // ---- part 2: best

    private static void bestIsTheLeast() {
        doc.sentence("the least of it that any WHOLE PLAN has; THE PLAN by a measure:"
                + " the first of the WHOLE PLANS that have so little of it.");
        // ENDS 8 and 19, or 14 and 25: by WORST the greater time, by SUM alike, by TIME the less
        Run run = Run.of("job(0, 6, 20); job(2, 9, 10)");
        bests(run, 5, 9, 19, 2);
        plan(run, 0, 2, 1);
        plan(run, 1, 1, 2);
        plan(run, 2, 1, 2);
        plan(run, 3, 1, 2);
        doc.due(run, "end(0, 0)", 25, "end(1, 0)", 14, "end(0, 1)", 8, "end(1, 1)", 19, "end(1, 2)", 19, "end(1, 3)", 19);
    }

    private static void theLongestTimes() {
        doc.sentence("BEST by a measure (0 WORST, 1 SUM, 2 TIME, 3 how many BATCHES)");
        StringBuilder slow = new StringBuilder("set(0, 9); set(1, 3); set(2, 3); family(0, 0, 9); family(0, 1, 20); ");
        for (int j = 0; j < 7; j++) {
            slow.append("job(0, 9, 0); ");
        }
        Run run = Run.of(slow.toString());
        // ENDS 47, 67, .. 167
        bests(run, 167, 7 * 107, 167, 7);
        plan(run, 1, 1, 2, 4, 8, 16, 32, 64);
        doc.due(run, "end(6, 1)", 167, "slack(6, 0)", 0, "slack(6, 1)", 0, "ruled(0)", 167, "ruled(1)", 749);
        // to and fro between 9 and 0: each of the seven takes 27 and 20
        Run fro = Run.of("set(1, 3); set(2, 3); family(0, 0, 9); family(0, 1, 20); family(1, 0, 0); family(1, 1, 20)",
                "job(0, 9, 0); job(1, 9, 0); job(0, 9, 0); job(1, 9, 0); job(0, 9, 0); job(1, 9, 0); job(0, 9, 0)",
                "pad(0/1/2/3/4/5/6)");
        doc.due(fro, "row(0)", 7 * 47, "row(1)", 28 * 47, "row(2)", 329, "row(3)", 7, "row(4)", 127, "at(6)", 329);
        bests(fro, 3 * 20 + 27 + 4 * 20, 20 + 40 + 60 + 107 + 127 + 147 + 167, 167, 7);
        plan(fro, 1, 2, 8, 32, 1, 4, 16, 64);
    }

    // ---- 8 best, 9 plan

    private static void bestRefused() {
        doc.sentence("BEST by a measure. OUTSIDE.");
        for (String state : new String[] {States.NEW, SOME, SEVEN}) {
            doc.refusedOutside(state, "best(%)", 0, 3, OUTSIDE);
        }
    }

    private static void planWithin() {
        doc.sentence("(b = -1: how many BATCHES); NONE: there is none such. OUTSIDE: the measure, b is below -1.");
        for (int measure = 0; measure < 4; measure++) {
            plan(Run.of(), measure);
            Run run = Run.of("job(0, 9, 8); job(0, 9, 13); job(0, 9, 18)");
            plan(run, measure, 1, 2, 4);
            for (int b : new int[] {4, 6, 7, 8, 32, 255, 256, 65536, Integer.MAX_VALUE - 1, Integer.MAX_VALUE}) {
                doc.due(run, "plan(" + measure + ", " + b + ")", NONE);
                doc.due(Run.of(), "plan(" + measure + ", " + b + ")", NONE);
            }
        }
    }

    private static void planRefused() {
        doc.sentence("OUTSIDE: the measure, b is below -1.");
        int[] below = {-2, -3, -32, -33, -255, -256, -65536, Integer.MIN_VALUE, Integer.MIN_VALUE + 1};
        for (int b : below) {
            for (String state : new String[] {States.NEW, SOME, SEVEN}) {
                doc.refused(state, "plan(0, " + b + ")", OUTSIDE);
                doc.refused(state, "plan(3, " + b + ")", OUTSIDE);
            }
        }
        for (String state : new String[] {States.NEW, SOME, SEVEN}) {
            doc.refusedOutside(state, "plan(%, -1)", 0, 3, OUTSIDE);
            doc.refusedOutside(state, "plan(%, 0)", 0, 3, OUTSIDE);
            // where there is no such batch, too: NONE is answered only where no refusal fits
            doc.refused(state, "plan(4, 99)", OUTSIDE);
            doc.refused(state, "plan(-1, 99)", OUTSIDE);
            doc.refused(state, "plan(-1, -2)", OUTSIDE);
        }
    }

    // ---- 10 end

    private static void endOfEach() {
        doc.sentence("END of the BATCH of a JOB in THE PLAN by a measure. UNKNOWN; OUTSIDE.");
        Run one = Run.of("job(0, 1, 0)");
        Run seven = Run.of("job(0, 9, 8); job(0, 9, 13); job(0, 9, 18); job(0, 9, 23); job(0, 9, 28); job(0, 9, 33)",
                "job(0, 9, 38)");
        for (int measure = 0; measure < 4; measure++) {
            doc.due(one, "end(0, " + measure + ")", 8, "end(1, " + measure + ")", UNKNOWN);
            for (int job = 0; job < 7; job++) {
                doc.due(seven, "end(" + job + ", " + measure + ")", 8 + 5 * job);
            }
        }
    }

    private static void endRefused() {
        doc.sentence("END of the BATCH of a JOB in THE PLAN by a measure. UNKNOWN; OUTSIDE.");
        jobAndMeasureRefused("end");
    }

    private static void jobAndMeasureRefused(String name) {
        for (int measure = 0; measure < 4; measure += 3) {
            doc.refusedOutside("", name + "(%, " + measure + ")", 0, -1, UNKNOWN);
            doc.refusedOutside(SOME, name + "(%, " + measure + ")", 0, 4, UNKNOWN);
            doc.refusedOutside(SEVEN, name + "(%, " + measure + ")", 0, 6, UNKNOWN);
        }
        doc.refusedOutside(SOME, name + "(0, %)", 0, 3, OUTSIDE);
        doc.refusedOutside(SEVEN, name + "(6, %)", 0, 3, OUTSIDE);
        doc.refused("", name + "(0, 4)", UNKNOWN);
        doc.refused(SOME, name + "(5, 4)", UNKNOWN);
        doc.refused(SOME, name + "(-1, -1)", UNKNOWN);
        doc.refused(SEVEN, name + "(7, 4)", UNKNOWN);
    }

    // ---- 11 slack

    private static void slackOfOne() {
        doc.sentence("so that BEST by a measure stays as it is, all else as it is (0 to its DUE).");
        // END is 8
        int[] dues = {0, 1, 7, 8, 9, 10, 98, 99};
        int[] slacks = {0, 0, 0, 0, 1, 2, 90, 91};
        for (int i = 0; i < dues.length; i++) {
            Run run = Run.of("job(0, 9, " + dues[i] + ")");
            doc.due(run, "slack(0, 0)", slacks[i], "slack(0, 1)", slacks[i], "slack(0, 2)", dues[i], "slack(0, 3)", dues[i],
                    "of(0, 2)", dues[i]);
        }
        // as long as nothing takes time but the cooking of 1, all but 1 of it
        Run quick = Run.of("set(1, 0); family(0, 1, 1); job(0, 9, 99)");
        doc.due(quick, "slack(0, 0)", 98, "slack(0, 1)", 98);
    }

    private static void slackByWorst() {
        doc.sentence("How much DUE of a JOB can be less, at the most, so that BEST by a measure stays as it is");
        // ENDS 8 and 19 or 14 and 25: WORST 9 or 5
        Run run = Run.of("job(0, 6, 20); job(2, 9, 10)");
        doc.due(run, "slack(0, 0)", 0, "slack(1, 0)", 1);
        // another job is late by 14 whatever is done: this one may be due at 0
        Run all = Run.of("job(0, 6, 5); job(2, 9, 4)");
        doc.due(all, "slack(0, 0)", 5, "slack(1, 0)", 0);
    }

    private static void slackBySum() {
        doc.sentence("How much DUE of a JOB can be less, at the most");
        // two plans of SUM 9: in one of them job 0 ends at 8, and that one is left when the other fails
        Run run = Run.of("job(0, 6, 20); job(2, 9, 10)");
        doc.due(run, "slack(0, 1)", 12, "slack(1, 1)", 0);
    }

    /** So much less and BEST is as it was; one more, and it is not. */
    private static void slackIsJustSoMuch() {
        doc.sentence("How much DUE of a JOB can be less, at the most, so that BEST by a measure stays as it is");
        String[] states = {SOME, SEVEN, "job(0, 9, 30); job(0, 9, 40); job(0, 9, 50); job(1, 5, 60); job(1, 4, 20)",
            "job(2, 5, 99); job(1, 5, 99); job(0, 5, 99); job(2, 5, 40); job(1, 5, 40); job(0, 5, 40); job(0, 1, 0)"};
        for (String state : states) {
            int jobs = Run.of(state).ask("count(0)");
            for (int job = 0; job < jobs; job++) {
                for (int measure = 0; measure < 4; measure++) {
                    slackIsJustSoMuch(state, job, measure);
                }
            }
        }
    }

    private static void slackIsJustSoMuch(String state, int job, int measure) {
        Run run = Run.of(state);
        int due = run.ask("of(" + job + ", 2)");
        int best = run.ask("best(" + measure + ")");
        int slack = run.ask("slack(" + job + ", " + measure + ")");
        String told = state + "; slack(" + job + ", " + measure + ")";
        doc.holds(told + " is 0 to DUE", slack >= 0 && slack <= due);
        doc.due(run, "of(" + job + ", 2)", due, "best(" + measure + ")", best);
        doc.due(run, "due(" + job + ", " + (due - slack) + ")", due, "best(" + measure + ")", best);
        if (slack < due) {
            run.ask("due(" + job + ", " + (due - slack - 1) + ")");
            doc.holds(told + " is all there is", run.ask("best(" + measure + ")") != best);
        }
    }

    private static void slackRefused() {
        doc.sentence("all else as it is (0 to its DUE). UNKNOWN; OUTSIDE.");
        jobAndMeasureRefused("slack");
    }
}
