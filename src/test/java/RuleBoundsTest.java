/** Promises 12 and 13, and part 3 of "Terms". */
public final class RuleBoundsTest {
    private static final int OUTSIDE = Sentences.OUTSIDE, NONE = Sentences.NONE;

    private static final String SOME = States.SOME, SEVEN = States.SEVEN;

    private static final Sentences doc = new Sentences("RuleBoundsTest");

    public static void main(String[] args) {
        tightIsTakenDown();
        tightBelowNone();
        asLongAsOneIsLeft();
        leastTightBegins();
        leastNumberOfAlike();
        onlyItsFamily();
        byTightThenByNumbers();
        roomToTheLast();
        leftOverBegins();
        ruleWithin();
        ruleRefused();
        ruledEach();
        ruledRefused();
        doc.finish();
    }

    private static void rule(Run run, int... sets) {
        doc.due(run, "rule(-1)", sets.length);
        for (int b = 0; b < sets.length; b++) {
            doc.due(run, "rule(" + b + ")", sets[b]);
        }
        doc.due(run, "rule(" + sets.length + ")", NONE);
    }

    /** Every COOK, VOLUME and DUE there is: the greatest q with q times VOLUME no more than DUE less COOK. */
    private static void tightIsTakenDown() {
        doc.sentence("TIGHT of a JOB: DUE less COOK of its FAMILY, by VOLUME, the quotient being taken down to a whole number");
        for (int cook = 1; cook <= 20; cook++) {
            for (int volume = 1; volume <= 9; volume++) {
                Run run = Run.of("family(1, 1, " + cook + "); job(1, " + volume + ", 0)");
                for (int due = 0; due <= 99; due++) {
                    int quotient = -20;
                    while ((quotient + 1) * volume <= due - cook) {
                        quotient++;
                    }
                    run.ask("due(0, " + due + ")");
                    doc.due(run, "of(0, 3)", quotient + 100);
                }
            }
        }
    }

    private static void tightBelowNone() {
        doc.sentence("(of one below 0, too: -1 by 2 is -1)");
        // TIGHT 0 and -1, which is not 0: job 1 is ahead
        rule(Run.of("job(0, 1, 5); job(1, 2, 4)"), 2, 1);
        // -1 by 2 and -2 by 2 are alike, -3 by 2 is less
        rule(Run.of("job(0, 2, 4); job(1, 2, 3)"), 1, 2);
        rule(Run.of("job(0, 2, 4); job(1, 2, 2)"), 2, 1);
        rule(Run.of("job(0, 9, 0); job(1, 9, 4)"), 1, 2);
    }

    private static void asLongAsOneIsLeft() {
        doc.sentence("again and again, as long as a JOB is left");
        rule(Run.of());
        rule(Run.of("job(2, 9, 99)"), 1);
        rule(Run.of("job(2, 9, 99); drop(0)"));
        String nines = "job(0, 9, 0); job(0, 9, 0); job(0, 9, 0); job(0, 9, 0); job(0, 9, 0); job(0, 9, 0); job(0, 9, 0)";
        rule(Run.of(nines), 1, 2, 4, 8, 16, 32, 64);
        rule(Run.of(nines, "set(0, 18)"), 3, 12, 48, 64);
        String ones = "job(1, 1, 0); job(1, 1, 0); job(1, 1, 0); job(1, 1, 0); job(1, 1, 0); job(1, 1, 0); job(1, 1, 0)";
        rule(Run.of(ones, "set(0, 9)"), 127);
    }

    private static void leastTightBegins() {
        doc.sentence("the JOB with the least TIGHT of those left");
        // TIGHT 2, 1, 0, though due behind one another
        rule(Run.of("job(0, 1, 7); job(1, 3, 8); job(2, 9, 13)"), 4, 2, 1);
        rule(Run.of("family(0, 1, 20); job(1, 1, 0); job(0, 1, 14)"), 2, 1);
        rule(Run.of("family(0, 1, 20); job(1, 1, 0); job(0, 1, 15)"), 1, 2);
    }

    private static void leastNumberOfAlike() {
        doc.sentence("of such the least, begins a BATCH");
        rule(Run.of("job(2, 9, 13); job(1, 9, 5); job(0, 9, 6)"), 1, 2, 4);
        rule(Run.of("job(2, 9, 14); job(1, 9, 13); job(0, 9, 5)"), 2, 4, 1);
    }

    private static void onlyItsFamily() {
        doc.sentence("then, of those left of its FAMILY");
        // alike in heat, cook and TIGHT, and room for all
        rule(Run.of("set(0, 20); family(1, 0, 3); job(0, 1, 5); job(1, 1, 5); job(0, 1, 5); job(1, 1, 5)"), 5, 10);
    }

    private static void byTightThenByNumbers() {
        doc.sentence("by TIGHT, of such as are alike by numbers, each goes into it for which there is room yet.");
        // TIGHT 5, 0, 1: with job 1 goes job 2
        rule(Run.of("job(0, 5, 30); job(0, 5, 5); job(0, 5, 10)"), 6, 1);
        // TIGHT 1, 0, 1: with job 1 goes job 0
        rule(Run.of("job(0, 5, 10); job(0, 5, 5); job(0, 5, 10)"), 3, 4);
        rule(Run.of("job(0, 5, 14); job(0, 5, 5); job(0, 5, 10)"), 3, 4);
        rule(Run.of("job(0, 5, 15); job(0, 5, 5); job(0, 5, 10)"), 6, 1);
    }

    private static void roomToTheLast() {
        doc.sentence("each goes into it for which there is room yet.");
        for (int room = 9; room <= 17; room++) {
            String jobs = "set(0, " + room + "); job(0, " + (room - 8) + ", 0); ";
            rule(Run.of(jobs, "job(0, 8, 99)"), 3);
            rule(Run.of(jobs, "job(0, 9, 99)"), 1, 2);
            // one that does not go in is gone past: a lesser one behind it goes in
            rule(Run.of(jobs, "job(0, 9, 98); job(0, 8, 99)"), 5, 2);
        }
        for (int room = 18; room <= 20; room++) {
            String jobs = "set(0, " + room + "); job(0, 9, 0); job(0, 8, 0); ";
            rule(Run.of(jobs, "job(0, " + (room - 17) + ", 99)"), 7);
            // that one is the tightest: 9, 8 and it, or it and 9 without 8
            rule(Run.of(jobs, "job(0, " + (room - 16) + ", 0)"), 5, 2);
        }
    }

    private static void leftOverBegins() {
        doc.sentence("again and again, as long as a JOB is left");
        // TIGHT 0, 1, 2 of family 0, 1 of family 1: job 1, that did not go in, is ahead of job 3 by its number
        rule(Run.of("job(0, 6, 5); job(0, 6, 11); job(0, 3, 11); job(1, 1, 6)"), 5, 2, 8);
        rule(Run.of("job(0, 6, 5); job(1, 1, 6); job(0, 3, 11); job(0, 6, 11)"), 5, 2, 8);
    }

    // ---- 12 rule

    private static void ruleWithin() {
        doc.sentence("that THE RULE makes (b = -1: how many BATCHES); NONE: there is none such. OUTSIDE: b is below -1.");
        String three = "job(0, 9, 8); job(0, 9, 13); job(0, 9, 18)";
        rule(Run.of(three), 1, 2, 4);
        for (int b : new int[] {3, 4, 6, 7, 8, 32, 255, 256, 65536, Integer.MAX_VALUE - 1, Integer.MAX_VALUE}) {
            doc.due(Run.of(three), "rule(" + b + ")", NONE);
            doc.due(Run.of(), "rule(" + b + ")", NONE);
        }
    }

    private static void ruleRefused() {
        doc.sentence("NONE: there is none such. OUTSIDE: b is below -1.");
        int[] below = {-2, -3, -32, -33, -255, -256, -65536, Integer.MIN_VALUE, Integer.MIN_VALUE + 1};
        for (int b : below) {
            for (String state : new String[] {States.NEW, SOME, SEVEN}) {
                doc.refused(state, "rule(" + b + ")", OUTSIDE);
            }
        }
    }

    // ---- 13 ruled

    private static void ruledEach() {
        doc.sentence("Of THE RULE's PLAN: the measures 0 to 3. OUTSIDE.");
        doc.due(Run.of(), "ruled(0)", 0, "ruled(1)", 0, "ruled(2)", 0, "ruled(3)", 0);
        doc.due(Run.of("job(2, 9, 13)"), "ruled(0)", 1, "ruled(1)", 1, "ruled(2)", 14, "ruled(3)", 1);
        doc.due(Run.of("job(2, 9, 14)"), "ruled(0)", 0, "ruled(1)", 0, "ruled(2)", 14, "ruled(3)", 1);
        // TIGHT 0 and 1: up to 9 first, then down to 3, ENDS 14 and 25; the best would be 8 and 19
        doc.due(Run.of("job(0, 9, 14); job(2, 9, 5)"), "ruled(0)", 11, "ruled(1)", 9 + 11, "ruled(2)", 25, "ruled(3)", 2,
                "best(2)", 19, "best(1)", 14);
    }

    private static void ruledRefused() {
        doc.sentence("Of THE RULE's PLAN: the measures 0 to 3. OUTSIDE.");
        for (String state : new String[] {States.NEW, SOME, SEVEN}) {
            doc.refusedOutside(state, "ruled(%)", 0, 3, OUTSIDE);
        }
    }
}
