/** Promises 1 to 7, and the numbers in part 1 of "Terms": what is just taken, and what is just not. */
public final class ShopBoundsTest {
    private static final int UNKNOWN = Sentences.UNKNOWN, OUTSIDE = Sentences.OUTSIDE, STATE = Sentences.STATE;
    private static final int FULL = Sentences.FULL, NONE = Sentences.NONE;

    private static final String SOME = States.SOME, SEVEN = States.SEVEN;

    private static final Sentences doc = new Sentences("ShopBoundsTest");

    public static void main(String[] args) {
        newHasNoJobs();
        newHasAnEmptyPad();
        newHasNoImage();
        newHasFirstNumbers();
        families();
        heats();
        cooks();
        whatOfFamily();
        rooms();
        upsAndDowns();
        whatOfSet();
        numberOfJobs();
        familiesOfJobs();
        volumes();
        dues();
        allAtTheirLimits();
        drops();
        dropRenumbers();
        dropLeavesThePad();
        dropOfNone();
        dueChanges();
        dueRefused();
        ofEach();
        ofRefused();
        doc.finish();
    }

    // ---- 1 a new object

    private static void newHasNoJobs() {
        doc.sentence("No JOBS; THE PAD is empty; no IMAGE is kept.");
        doc.due(Run.of(), "count(0)", 0, "count(1)", 0, "count(6)", 0, "drop(0)", UNKNOWN, "due(0, 0)", UNKNOWN,
                "of(0, 0)", UNKNOWN, "end(0, 0)", UNKNOWN, "slack(0, 0)", UNKNOWN, "at(0)", UNKNOWN,
                "put(0, 0)", UNKNOWN, "rule(-1)", 0, "rule(0)", NONE, "count(0)", 0);
        for (int measure = 0; measure < 4; measure++) {
            doc.due(Run.of(), "best(" + measure + ")", 0, "plan(" + measure + ", -1)", 0,
                    "plan(" + measure + ", 0)", NONE, "ruled(" + measure + ")", 0);
        }
        doc.due(Run.of(), "job(0, 1, 0)", 0);
    }

    private static void newHasAnEmptyPad() {
        doc.sentence("THE PAD is empty; no IMAGE is kept.");
        doc.due(Run.of(), "count(5)", 0, "fault()", NONE, "row(0)", 0, "row(1)", 0, "row(2)", 0, "row(3)", 0,
                "row(4)", 0, "wipe()", 0);
        doc.due(Run.of(), "say(48)", 1);
    }

    private static void newHasNoImage() {
        doc.sentence("no IMAGE is kept.");
        doc.due(Run.of(), "count(7)", 0, "restore(0)", STATE, "restore(1)", STATE);
    }

    private static void newHasFirstNumbers() {
        doc.sentence("(HEAT 3, 6, 9, COOK 5 at first)");
        doc.due(Run.of(), "count(10)", 3, "count(11)", 6, "count(12)", 9, "count(20)", 5, "count(21)", 5, "count(22)", 5);
        doc.sentence("ROOM is 9 to 20 (10 at first)");
        doc.due(Run.of(), "count(2)", 10);
        doc.sentence("UP and DOWN are 0 to 3 (1 both at first)");
        doc.due(Run.of(), "count(3)", 1, "count(4)", 1);
    }

    // ---- 2 family

    private static void families() {
        doc.sentence("FAMILIES are 0 to 2");
        int[] heat = {3, 6, 9};
        for (int f = 0; f < 3; f++) {
            Run run = Run.of();
            doc.due(run, "family(" + f + ", 0, 1)", heat[f], "family(" + f + ", 1, 2)", 5);
            for (int other = 0; other < 3; other++) {
                doc.due(run, "count(" + (10 + other) + ")", other == f ? 1 : heat[other]);
                doc.due(run, "count(" + (20 + other) + ")", other == f ? 2 : 5);
            }
        }
        doc.refusedOutside(SOME, "family(%, 0, 1)", 0, 2, UNKNOWN);
        doc.refusedOutside(SOME, "family(%, 1, 1)", 0, 2, UNKNOWN);
    }

    private static void heats() {
        doc.sentence("each with a HEAT, 0 to 9");
        for (int f = 0; f < 3; f++) {
            Run run = Run.of();
            int was = 3 + 3 * f;
            for (int v : new int[] {0, 1, 8, 9, 0, 9, 9}) {
                doc.due(run, "family(" + f + ", 0, " + v + ")", was, "count(" + (10 + f) + ")", v);
                was = v;
            }
            doc.due(run, "count(" + (20 + f) + ")", 5);
            doc.refused(SOME, "family(" + f + ", 0, -1)", OUTSIDE);
            doc.refused(SOME, "family(" + f + ", 0, 10)", OUTSIDE);
        }
        doc.refusedOutside(SOME, "family(0, 0, %)", 0, 9, OUTSIDE);
    }

    private static void cooks() {
        doc.sentence("a COOK, 1 to 20");
        for (int f = 0; f < 3; f++) {
            Run run = Run.of();
            int was = 5;
            for (int v : new int[] {1, 2, 19, 20, 1, 20, 20}) {
                doc.due(run, "family(" + f + ", 1, " + v + ")", was, "count(" + (20 + f) + ")", v);
                was = v;
            }
            doc.due(run, "count(" + (10 + f) + ")", 3 + 3 * f);
            doc.refused(SOME, "family(" + f + ", 1, 0)", OUTSIDE);
            doc.refused(SOME, "family(" + f + ", 1, 21)", OUTSIDE);
        }
        doc.refusedOutside(SOME, "family(0, 1, %)", 1, 20, OUTSIDE);
    }

    private static void whatOfFamily() {
        doc.sentence("HEAT (what = 0), COOK (1) of a FAMILY is v: which it was. UNKNOWN; OUTSIDE: both.");
        doc.refusedOutside(SOME, "family(1, %, 5)", 0, 1, OUTSIDE);
        doc.refused(SOME, "family(1, 2, 10)", OUTSIDE);
        doc.refused(SOME, "family(3, 2, 5)", UNKNOWN);
        doc.refused(SOME, "family(-1, 0, 10)", UNKNOWN);
        doc.refused(SOME, "family(3, 1, 0)", UNKNOWN);
        doc.refused(SOME, "family(-1, -1, -1)", UNKNOWN);
    }

    // ---- 3 set

    private static void rooms() {
        doc.sentence("ROOM is 9 to 20");
        Run run = Run.of();
        int was = 10;
        for (int v : new int[] {9, 10, 19, 20, 9, 20, 20}) {
            doc.due(run, "set(0, " + v + ")", was, "count(2)", v);
            was = v;
        }
        doc.due(run, "count(3)", 1, "count(4)", 1);
        doc.refusedOutside(SOME, "set(0, %)", 9, 20, OUTSIDE);
        for (int paceNotRoom = 0; paceNotRoom <= 3; paceNotRoom++) {
            doc.refused(SOME, "set(0, " + paceNotRoom + ")", OUTSIDE);
        }
    }

    private static void upsAndDowns() {
        doc.sentence("UP and DOWN are 0 to 3");
        for (int what = 1; what <= 2; what++) {
            Run run = Run.of();
            int was = 1;
            for (int v : new int[] {0, 1, 2, 3, 0, 3, 3}) {
                doc.due(run, "set(" + what + ", " + v + ")", was, "count(" + (2 + what) + ")", v);
                was = v;
            }
            doc.due(run, "count(" + (5 - what) + ")", 1, "count(2)", 10);
            doc.refusedOutside(SOME, "set(" + what + ", %)", 0, 3, OUTSIDE);
            doc.refused(SOME, "set(" + what + ", 9)", OUTSIDE);
        }
    }

    private static void whatOfSet() {
        doc.sentence("ROOM (what = 0), UP (1), DOWN (2) is v: which it was. OUTSIDE: both.");
        doc.refusedOutside(SOME, "set(%, 3)", 0, 2, OUTSIDE);
        doc.refusedOutside(SOME, "set(%, 10)", 0, 0, OUTSIDE);
        doc.refused(SOME, "set(3, 21)", OUTSIDE);
        doc.refused(SOME, "set(-1, -1)", OUTSIDE);
    }

    // ---- 4 job

    private static void numberOfJobs() {
        doc.sentence("JOBS, up to 7, are numbered from 0 on as they are told");
        Run run = Run.of();
        for (int j = 0; j < 7; j++) {
            doc.due(run, "count(0)", j, "of(" + j + ", 2)", UNKNOWN, "job(" + j % 3 + ", " + (9 - j) + ", " + 11 * j + ")", j);
        }
        for (int j = 0; j < 7; j++) {
            doc.due(run, "of(" + j + ", 0)", j % 3, "of(" + j + ", 1)", 9 - j, "of(" + j + ", 2)", 11 * j);
        }
        doc.sentence("A JOB more: its number. UNKNOWN: the FAMILY; OUTSIDE: both others; FULL: there are 7.");
        doc.due(run, "job(0, 1, 1)", FULL, "count(0)", 7, "of(7, 0)", UNKNOWN, "drop(0)", 6, "job(0, 1, 1)", 6,
                "job(0, 1, 1)", FULL);
        for (int f = 0; f < 3; f++) {
            doc.refused(SEVEN, "job(" + f + ", 1, 0)", FULL);
            doc.refused(SEVEN, "job(" + f + ", 9, 99)", FULL);
        }
    }

    private static void familiesOfJobs() {
        doc.sentence("each of a FAMILY, of a VOLUME, 1 to 9, DUE at 0 to 99.");
        for (int f = 0; f < 3; f++) {
            doc.due(Run.of(), "job(" + f + ", 1, 1)", 0);
        }
        doc.refusedOutside(SOME, "job(%, 1, 1)", 0, 2, UNKNOWN);
        doc.refusedOutside("", "job(%, 1, 1)", 0, 2, UNKNOWN);
        doc.refused(SOME, "job(3, 0, 1)", UNKNOWN);
        doc.refused(SOME, "job(-1, 1, 100)", UNKNOWN);
        doc.refused(SEVEN, "job(3, 1, 1)", UNKNOWN);
        doc.refused(SEVEN, "job(-1, 10, -1)", UNKNOWN);
    }

    private static void volumes() {
        doc.sentence("of a VOLUME, 1 to 9");
        for (int v : new int[] {1, 2, 8, 9}) {
            doc.due(Run.of(), "job(0, " + v + ", 5)", 0, "of(0, 1)", v, "count(1)", v);
        }
        doc.refusedOutside(SOME, "job(0, %, 1)", 1, 9, OUTSIDE);
        doc.refused(SOME, "job(2, 0, 0)", OUTSIDE);
        doc.refused(SOME, "job(2, 10, 99)", OUTSIDE);
        doc.refused(SEVEN, "job(0, 0, 1)", OUTSIDE);
        doc.refused(SEVEN, "job(0, 10, 1)", OUTSIDE);
    }

    private static void dues() {
        doc.sentence("DUE at 0 to 99.");
        for (int v : new int[] {0, 1, 98, 99}) {
            doc.due(Run.of(), "job(0, 1, " + v + ")", 0, "of(0, 2)", v);
        }
        doc.refusedOutside(SOME, "job(0, 1, %)", 0, 99, OUTSIDE);
        doc.refused(SOME, "job(2, 9, -1)", OUTSIDE);
        doc.refused(SOME, "job(2, 9, 100)", OUTSIDE);
        doc.refused(SEVEN, "job(0, 1, -1)", OUTSIDE);
        doc.refused(SEVEN, "job(0, 1, 100)", OUTSIDE);
    }

    private static void allAtTheirLimits() {
        doc.sentence("each of a FAMILY, of a VOLUME, 1 to 9, DUE at 0 to 99.");
        doc.due(Run.of(), "job(2, 9, 99)", 0, "job(0, 1, 0)", 1, "job(2, 1, 99)", 2, "job(0, 9, 0)", 3);
        doc.refused("", "job(0, 0, 0)", OUTSIDE);
        doc.refused("", "job(2, 10, 100)", OUTSIDE);
    }

    // ---- 5 drop

    private static void drops() {
        doc.sentence("THE PAD stays: how many there are. UNKNOWN.");
        Run run = Run.of(SEVEN);
        for (int left = 6; left >= 0; left--) {
            doc.due(run, "drop(" + left + ")", left, "count(0)", left, "drop(" + left + ")", UNKNOWN);
        }
        doc.due(run, "drop(0)", UNKNOWN, "job(2, 5, 50)", 0, "of(0, 0)", 2, "drop(0)", 0);
        Run front = Run.of(SEVEN);
        for (int left = 6; left >= 0; left--) {
            doc.due(front, "drop(0)", left);
        }
        doc.due(front, "drop(0)", UNKNOWN, "count(0)", 0, "count(1)", 0, "count(6)", 0);
    }

    private static void dropRenumbers() {
        doc.sentence("A JOB goes; those of greater numbers have each a number less by 1 then");
        for (int gone = 0; gone < 7; gone++) {
            Run run = Run.of(SEVEN, "drop(" + gone + ")");
            int[] families = {0, 0, 1, 1, 2, 2, 0};
            for (int j = 0; j < 6; j++) {
                int was = j < gone ? j : j + 1;
                doc.due(run, "of(" + j + ", 0)", families[was], "of(" + j + ", 1)", was + 1, "of(" + j + ", 2)", was + 1);
            }
            doc.due(run, "of(6, 0)", UNKNOWN, "count(1)", 28 - gone - 1, "job(1, 9, 90)", 6, "of(6, 2)", 90);
        }
    }

    private static void dropLeavesThePad() {
        doc.sentence("THE PAD stays: how many there are.");
        // all of one family, so that each figure stands for as long as there is a job of that number
        String jobs = "job(0, 1, 1); job(0, 1, 2); job(0, 1, 3); pad(2/1/0)";
        doc.due(Run.of(jobs, "drop(0)"), "count(5)", 5, "fault()", 0, "job(0, 1, 9)", 2, "fault()", NONE, "row(4)", 7);
        doc.due(Run.of(jobs, "drop(2)"), "count(5)", 5, "fault()", 0);
        doc.due(Run.of(jobs, "drop(1); drop(0); drop(0)"), "count(5)", 5, "fault()", 0, "wipe()", 5);
        // figure 1 tells the job that was 2: of another family then
        doc.due(Run.of("job(0, 1, 1); job(0, 1, 2); job(1, 1, 3); pad(01)"), "fault()", NONE, "drop(1)", 2, "fault()", 1);
        doc.due(Run.of("job(0, 1, 1); job(0, 9, 2); job(0, 9, 3); pad(01)"), "fault()", NONE, "drop(0)", 2, "fault()", 1);
    }

    private static void dropOfNone() {
        doc.sentence("UNKNOWN -1 (no such JOB, FAMILY)");
        doc.refusedOutside("", "drop(%)", 0, -1, UNKNOWN);
        doc.refusedOutside(SOME, "drop(%)", 0, 4, UNKNOWN);
        doc.refusedOutside(SEVEN, "drop(%)", 0, 6, UNKNOWN);
    }

    // ---- 6 due

    private static void dueChanges() {
        doc.sentence("A JOB is DUE at another time: at which it was. UNKNOWN; OUTSIDE.");
        for (int job = 0; job < 7; job += 3) {
            Run run = Run.of(SEVEN);
            int was = job + 1;
            for (int v : new int[] {0, 1, 98, 99, 0, 99, 99}) {
                doc.due(run, "due(" + job + ", " + v + ")", was, "of(" + job + ", 2)", v);
                was = v;
            }
            for (int other = 0; other < 7; other++) {
                doc.due(run, "of(" + other + ", 2)", other == job ? 99 : other + 1, "of(" + other + ", 1)", other + 1);
            }
        }
    }

    private static void dueRefused() {
        doc.sentence("A JOB is DUE at another time: at which it was. UNKNOWN; OUTSIDE.");
        doc.refusedOutside("", "due(%, 0)", 0, -1, UNKNOWN);
        doc.refusedOutside(SOME, "due(%, 5)", 0, 4, UNKNOWN);
        doc.refusedOutside(SEVEN, "due(%, 5)", 0, 6, UNKNOWN);
        doc.refusedOutside(SOME, "due(0, %)", 0, 99, OUTSIDE);
        doc.refusedOutside(SEVEN, "due(6, %)", 0, 99, OUTSIDE);
        doc.refused(SOME, "due(5, 100)", UNKNOWN);
        doc.refused(SOME, "due(-1, -1)", UNKNOWN);
        doc.refused("", "due(0, 100)", UNKNOWN);
    }

    // ---- 7 of

    private static void ofEach() {
        doc.sentence("Of a JOB: FAMILY (what = 0), VOLUME (1), DUE (2), TIGHT and 100, added (3).");
        doc.due(Run.of("job(0, 1, 0)"), "of(0, 0)", 0, "of(0, 1)", 1, "of(0, 2)", 0, "of(0, 3)", 95);
        doc.due(Run.of("job(2, 9, 99)"), "of(0, 0)", 2, "of(0, 1)", 9, "of(0, 2)", 99, "of(0, 3)", 110);
        // the least and the greatest there are
        doc.due(Run.of("family(1, 1, 20); job(1, 1, 0)"), "of(0, 3)", 80);
        doc.due(Run.of("family(1, 1, 1); job(1, 1, 99)"), "of(0, 3)", 198);
        doc.due(Run.of("family(1, 1, 20); job(1, 1, 20); job(1, 9, 20)"), "of(0, 3)", 100, "of(1, 3)", 100);
        doc.due(Run.of("family(1, 1, 20); job(1, 9, 19); job(1, 9, 28); job(1, 9, 29)"), "of(0, 3)", 99, "of(1, 3)", 100,
                "of(2, 3)", 101);
    }

    private static void ofRefused() {
        doc.sentence("TIGHT and 100, added (3). UNKNOWN; OUTSIDE.");
        doc.refusedOutside("", "of(%, 0)", 0, -1, UNKNOWN);
        doc.refusedOutside(SOME, "of(%, 3)", 0, 4, UNKNOWN);
        doc.refusedOutside(SEVEN, "of(%, 3)", 0, 6, UNKNOWN);
        doc.refusedOutside(SOME, "of(4, %)", 0, 3, OUTSIDE);
        doc.refused(SOME, "of(5, 4)", UNKNOWN);
        doc.refused(SOME, "of(-1, -1)", UNKNOWN);
    }
}
