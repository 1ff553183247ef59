/** What "Terms" says ahead of its parts, and the 512 calls: sentences that hold for many calls at once. */
public final class TermsBoundsTest {
    private static final int UNKNOWN = Sentences.UNKNOWN, OUTSIDE = Sentences.OUTSIDE, STATE = Sentences.STATE;
    private static final int FULL = Sentences.FULL, NONE = Sentences.NONE, FAULT = Sentences.FAULT;

    private static final String SOME = States.SOME, SEVEN = States.SEVEN;
    private static final String FAULTY = States.FAULTY, FULL_PAD = States.FULL_PAD;

    private static final Sentences doc = new Sentences("TermsBoundsTest");

    public static void main(String[] args) {
        constants();
        orderOfTwo();
        orderOfJob();
        orderOfPut();
        noneBehindRefusals();
        sameRefusalAgain();
        asThingsAre();
        askingChangesNothing();
        setsOfJobs();
        objectsAreApart();
        callsToTheLast();
        changesToTheLast();
        doc.finish();
    }

    private static void constants() {
        doc.sentence("`UNKNOWN = -1, OUTSIDE = -2, STATE = -3, FULL = -4, NONE = -6, FAULT = -7`");
        doc.holds("the constants", HeatBatches.UNKNOWN == -1 && HeatBatches.OUTSIDE == -2 && HeatBatches.STATE == -3
                && HeatBatches.FULL == -4 && HeatBatches.NONE == -6 && HeatBatches.FAULT == -7);
    }

    /** Two reasons at once: the one that the document puts first with the call. */
    private static void orderOfTwo() {
        doc.sentence("Calls that are refused answer the first that fits, in the order in which they are told with the call");
        Object[][] rows = {
            {SOME, "family(3, 2, 1)", UNKNOWN}, {SOME, "family(3, 0, 10)", UNKNOWN}, {SOME, "family(-1, 1, 0)", UNKNOWN},
            {SOME, "due(5, 100)", UNKNOWN}, {SOME, "due(-1, -1)", UNKNOWN},
            {SOME, "of(5, 4)", UNKNOWN}, {SOME, "of(-1, -1)", UNKNOWN},
            {SOME, "end(5, 4)", UNKNOWN}, {SOME, "end(-1, -1)", UNKNOWN},
            {SOME, "slack(5, 4)", UNKNOWN}, {SOME, "slack(-1, -1)", UNKNOWN},
            {FULL_PAD, "say(32)", OUTSIDE}, {FULL_PAD, "say(127)", OUTSIDE}, {FULL_PAD, "say(126)", FULL},
            {FAULTY, "row(5)", OUTSIDE}, {FAULTY, "row(-1)", OUTSIDE}, {FAULTY, "row(4)", FAULT},
            {FAULTY, "at(3)", UNKNOWN}, {FAULTY, "at(-1)", UNKNOWN}, {FAULTY, "at(2)", FAULT},
            {FAULTY, "restore(2)", OUTSIDE}, {FAULTY, "restore(-1)", OUTSIDE}, {FAULTY, "restore(1)", STATE}};
        for (Object[] row : rows) {
            doc.refused((String) row[0], (String) row[1], (int) row[2]);
        }
    }

    private static void orderOfJob() {
        doc.sentence("UNKNOWN: the FAMILY; OUTSIDE: both others; FULL: there are 7.");
        int[] families = {1, 3};
        int[] volumes = {5, 0};
        int[] dues = {50, 100};
        for (int wrong = 0; wrong < 8; wrong++) {
            String call = "job(" + families[wrong & 1] + ", " + volumes[wrong >> 1 & 1] + ", " + dues[wrong >> 2] + ")";
            doc.refused(SEVEN, call, (wrong & 1) == 1 ? UNKNOWN : wrong != 0 ? OUTSIDE : FULL);
            if (wrong != 0) {
                doc.refused(SOME, call, (wrong & 1) == 1 ? UNKNOWN : OUTSIDE);
            }
        }
    }

    private static void orderOfPut() {
        doc.sentence("UNKNOWN; OUTSIDE; FAULT; STATE: the JOB is in the PLAN.");
        // job 9 is none, job 0 is told on both pads, job 1 on neither
        for (int wrong = 1; wrong < 16; wrong++) {
            boolean unknown = (wrong & 1) != 0;
            boolean outside = (wrong & 2) != 0;
            boolean faulty = (wrong & 4) != 0;
            boolean told = (wrong & 8) != 0;
            String jobs = "job(0, 4, 10); job(0, 6, 20); job(1, 5, 12); image(0); ";
            String call = "put(" + (unknown ? 9 : told ? 0 : 1) + ", " + (outside ? 2 : 0) + ")";
            doc.refused(jobs + (faulty ? "pad(0/2/)" : "pad(0/2)"), call,
                    unknown ? UNKNOWN : outside ? OUTSIDE : faulty ? FAULT : STATE);
        }
    }

    private static void noneBehindRefusals() {
        doc.sentence("NONE -6 is answered only where no refusal fits.");
        doc.refused(SOME, "plan(4, 7)", OUTSIDE);
        doc.refused(SOME, "plan(-1, 2147483647)", OUTSIDE);
        doc.refused("", "plan(4, 0)", OUTSIDE);
        doc.refused("", "plan(0, -2)", OUTSIDE);
        doc.refused("", "rule(-2)", OUTSIDE);
        doc.refused("", "at(0)", UNKNOWN);
        doc.refused(SOME, "at(5)", UNKNOWN);
        doc.refused(FAULTY, "at(1)", FAULT);
        doc.refused(FAULTY, "at(0)", FAULT);
        doc.due(Run.of(SOME), "plan(3, 7)", NONE, "rule(7)", NONE, "at(4)", NONE, "fault()", NONE);
    }

    /** A refused call leaves so little behind that it is refused again, the same way, and again. */
    private static void sameRefusalAgain() {
        doc.sentence("What is refused changes nothing.");
        String[] calls = {"family(3, 0, 1)", "family(0, 0, 10)", "set(0, 21)", "job(3, 1, 1)", "job(0, 10, 1)", "drop(9)",
            "due(9, 1)", "due(0, 100)", "of(9, 0)", "of(0, 4)", "best(4)", "plan(4, 0)", "plan(0, -2)", "end(9, 0)",
            "end(0, 4)", "slack(9, 0)", "slack(0, 4)", "rule(-2)", "ruled(4)", "say(32)", "row(5)", "at(9)", "put(9, 0)",
            "put(0, 2)", "image(2)", "restore(2)", "count(8)"};
        for (String state : new String[] {States.NEW, SOME, SEVEN, FAULTY, FULL_PAD}) {
            Run run = Run.of(state);
            for (String call : calls) {
                int first = Run.of(state).ask(call);
                doc.holds(state + "; " + call + " is refused", first <= -1 && first != NONE);
                doc.due(run, call, first, call, first);
            }
            doc.holds(state + ": changed by none of all", run.all().equals(Run.of(state).all()));
        }
    }

    private static void asThingsAre() {
        doc.sentence("All that is told is as things are when it is asked.");
        String[] changes = {"family(0, 0, 0)", "family(1, 0, 9)", "family(2, 0, 1)", "family(0, 1, 20)", "family(1, 1, 1)",
            "family(2, 1, 9)", "set(0, 9)", "set(0, 20)", "set(1, 0)", "set(1, 3)", "set(2, 0)", "set(2, 3)",
            "job(0, 1, 0)", "job(2, 9, 99)", "drop(0)", "drop(2)", "due(0, 0)", "due(2, 99)", "restore(0)", "restore(1)",
            "image(0)", "image(1)", "wipe()", "wipe(); pad(2/0)", "pad(/4)", "say(49)"};
        for (String state : new String[] {SOME, SEVEN, FAULTY, FULL_PAD}) {
            for (String change : changes) {
                doc.asThingsAre(state, change);
            }
        }
    }

    private static void askingChangesNothing() {
        doc.sentence("All that is told is as things are when it is asked.");
        String[] calls = {"of(0, 3)", "best(0)", "best(1)", "best(2)", "best(3)", "plan(0, -1)", "plan(1, 0)", "plan(2, 9)",
            "plan(3, 1)", "end(0, 0)", "end(0, 1)", "end(0, 2)", "end(0, 3)", "slack(0, 0)", "slack(0, 1)", "slack(0, 2)",
            "slack(0, 3)", "slack(1, 0)", "slack(2, 1)", "rule(-1)", "rule(0)", "rule(9)", "ruled(0)", "ruled(3)", "fault()",
            "row(0)", "row(4)", "at(0)", "at(1)", "put(1, 0)", "put(2, 1)", "count(0)", "count(7)", "count(22)"};
        for (String state : new String[] {States.NEW, SOME, SEVEN, FAULTY, FULL_PAD}) {
            String without = Run.of(state).all();
            for (String call : calls) {
                doc.holds(state + "; " + call + " changes nothing", Run.of(state, call).all().equals(without));
            }
        }
    }

    private static void setsOfJobs() {
        doc.sentence("bit j (of the value 1 shifted left by j) tells whether JOB j is in it.");
        Run run = Run.of("job(0, 9, 8); job(0, 9, 13); job(0, 9, 18); job(0, 9, 23); job(0, 9, 28); job(0, 9, 33); job(0, 9, 38)");
        for (int j = 0; j < 7; j++) {
            doc.due(run, "plan(0, " + j + ")", 1 << j, "plan(1, " + j + ")", 1 << j, "rule(" + j + ")", 1 << j,
                    "say(" + ('0' + j) + ")", 1, "row(4)", 1 << j, "wipe()", 1);
        }
        doc.due(Run.of("job(0, 1, 8); job(0, 1, 8); job(0, 1, 8); job(0, 1, 8); job(0, 1, 8); job(0, 1, 8); job(0, 1, 8)"),
                "plan(0, 0)", 127, "plan(1, 0)", 127, "plan(2, 0)", 127, "plan(3, 0)", 127, "rule(0)", 127);
    }

    private static void objectsAreApart() {
        doc.sentence("No JOBS; THE PAD is empty; no IMAGE is kept.");
        String fresh = Run.of().all();
        Run one = new Run();
        Run other = new Run();
        one.go(SEVEN).go("family(0, 0, 0); family(0, 1, 1); set(1, 3); set(2, 3)").go(Sentences.ASKED);
        doc.holds("an object made ahead of that is as new", other.all().equals(fresh));
        doc.holds("an object made behind that is as new", Run.of().all().equals(fresh));
        doc.due(one, "count(0)", 7, "count(7)", 3, "count(5)", 11);
    }

    /** Whatever was called before, the 512th call answers as the first would. */
    private static void callsToTheLast() {
        doc.sentence("An object is used for at most 512 calls after it has been made");
        String[] fillers = {"count(0)", "slack(6, 1)", "job(0, 1, 1)", "due(3, 55); slack(6, 0); due(3, 4)", "image(0); restore(0)",
            "best(4)", "say(48)"};
        String[] lasts = {"slack(5, 1)", "plan(1, 1)", "best(0)", "end(6, 2)", "rule(0)", "row(1)", "put(6, 0)", "count(1)"};
        for (String filler : fillers) {
            for (String last : lasts) {
                Run run = Run.of(SEVEN, filler);
                int parts = filler.split(";").length;
                while (run.calls() + parts < 512) {
                    run.go(filler);
                }
                while (run.calls() < 511) {
                    run.go("count(0)");
                }
                int early = Run.of(SEVEN, filler, filler, filler).ask(last);
                doc.due(run, last, early);
                doc.holds("that was call 512", run.calls() == 512);
            }
        }
    }

    /** A change ahead of the questions, up to the last call: each answer is that of a new object in the same state. */
    private static void changesToTheLast() {
        doc.sentence("An object is used for at most 512 calls after it has been made");
        for (int jobs : new int[] {2, 3, 4, 7}) {
            changesToTheLast(new int[jobs]);
        }
    }

    private static void changesToTheLast(int[] dues) {
        String[] questions = {"slack(%, 0)", "slack(%, 1)", "best(0)", "best(1)", "plan(0, 1)", "plan(1, 1)", "end(%, 1)",
            "plan(2, 1)"};
        Run old = Run.of(jobsDueAt(dues));
        for (int round = 0; old.calls() < 512; round++) {
            int changed = round % dues.length;
            dues[changed] = (dues[changed] + 37 + round) % 100;
            old.ask("due(" + changed + ", " + dues[changed] + ")");
            for (int more = 0; more < 4 && old.calls() < 512; more++) {
                int job = (changed + more) % dues.length;
                String question = questions[(3 * round + more) % questions.length].replace("%", String.valueOf(job));
                doc.due(old, question, Run.of(jobsDueAt(dues)).ask(question));
            }
        }
        doc.holds("up to call 512", old.calls() == 512);
    }

    private static String jobsDueAt(int[] dues) {
        StringBuilder jobs = new StringBuilder();
        for (int j = 0; j < dues.length; j++) {
            jobs.append("job(").append(j % 3).append(", ").append(3 + j / 3).append(", ").append(dues[j]).append("); ");
        }
        return jobs.toString();
    }
}
