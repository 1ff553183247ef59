/** Promises 14 to 19, and part 4 of "Terms". */
public final class PadBoundsTest {
    private static final int UNKNOWN = Sentences.UNKNOWN, OUTSIDE = Sentences.OUTSIDE, STATE = Sentences.STATE;
    private static final int FULL = Sentences.FULL, NONE = Sentences.NONE, FAULT = Sentences.FAULT;

    /** Of family 0: jobs 0, 1, 2; of family 1: 3, 4. */
    private static final String JOBS = "job(0, 4, 10); job(0, 6, 20); job(0, 1, 30); job(1, 5, 12); job(1, 5, 40); image(0)";
    private static final String SEVEN = "job(0, 1, 1); job(0, 2, 2); job(1, 3, 3); image(0); job(1, 4, 4); job(2, 5, 5);"
            + " job(2, 6, 6); job(0, 7, 7); image(1); set(0, 12)";

    private static final Sentences doc = new Sentences("PadBoundsTest");

    public static void main(String[] args) {
        saySigns();
        sayRefused();
        sayFourteen();
        wipes();
        withoutSigns();
        figuresThatStand();
        signsBehindAJob();
        signsBehindABar();
        noSuchJob();
        toldAlready();
        anotherFamily();
        noRoom();
        barAtTheBeginning();
        barBehindABar();
        barAtTheEnd();
        theFirstOfSeveral();
        rowEach();
        rowRefused();
        atEach();
        atRefused();
        putAheadAndBehind();
        putIntoABatch();
        putIntoItsFamilyAlone();
        putWhereThereIsRoom();
        putAtTheLeastPlace();
        putIntoNothing();
        putCountsThePlanAlone();
        putRefused();
        putOfOneThatIsIn();
        doc.finish();
    }

    private static String pad(String signs) {
        return JOBS + "; pad(" + signs + ")";
    }

    private static void fault(String signs, int want) {
        doc.due(Run.of(pad(signs)), "fault()", want, "row(4)", want == NONE ? members(signs) : FAULT, "fault()", want);
    }

    private static int members(String signs) {
        int set = 0;
        for (char sign : signs.replace("/", "").toCharArray()) {
            set |= 1 << sign - '0';
        }
        return set;
    }

    /** So many jobs of family 0, of volume 1. */
    private static String jobs(int n) {
        return "job(0, 1, 50); ".repeat(n);
    }

    // ---- 14 say

    private static void saySigns() {
        doc.sentence("A sign more on THE PAD: how many. OUTSIDE: it is not 33 to 126; FULL: there are 14.");
        for (int sign = 33; sign <= 126; sign++) {
            doc.due(Run.of(), "say(" + sign + ")", 1, "count(5)", 1);
        }
    }

    private static void sayRefused() {
        doc.sentence("OUTSIDE: it is not 33 to 126");
        doc.refusedOutside("", "say(%)", 33, 126, OUTSIDE);
        doc.refusedOutside(pad("01/3"), "say(%)", 33, 126, OUTSIDE);
        doc.refusedOutside(pad("0/1/2/3/4/01/2"), "say(%)", 33, 126, OUTSIDE);
        for (int control = 0; control < 33; control += 4) {
            doc.refused(pad("01"), "say(" + control + ")", OUTSIDE);
        }
    }

    private static void sayFourteen() {
        doc.sentence("THE PAD has up to 14 signs");
        Run run = Run.of(JOBS);
        String signs = "0/1/2/34/!~0/1";
        for (int i = 0; i < 14; i++) {
            doc.due(run, "say(" + (int) signs.charAt(i) + ")", i + 1, "count(5)", i + 1);
        }
        doc.due(run, "say(48)", FULL, "count(5)", 14, "say(126)", FULL, "say(33)", FULL, "wipe()", 14, "say(48)", 1);
        doc.sentence("FULL: there are 14.");
        for (int sign = 33; sign <= 126; sign++) {
            doc.refused(pad("0/1/2/34/01/23"), "say(" + sign + ")", FULL);
        }
        doc.refused(SEVEN + "; pad(0/1/2/3/4/5/6/)", "say(48)", FULL);
        doc.due(Run.of(SEVEN, "pad(0/1/2/3/4/5/6)"), "say(47)", 14, "say(47)", FULL);
    }

    // ---- 15 wipe

    private static void wipes() {
        doc.sentence("THE PAD is empty: how many signs it had.");
        for (int n = 0; n <= 14; n++) {
            Run run = Run.of(JOBS, "pad(" + "9".repeat(n) + ")");
            doc.due(run, "wipe()", n, "count(5)", 0, "fault()", NONE, "row(4)", 0, "wipe()", 0, "say(51)", 1, "row(4)", 8);
        }
        Run again = Run.of(JOBS, "pad(0/1/2/3/4/0/1/)", "wipe()", "pad(4/3/2/1/0)");
        doc.due(again, "fault()", NONE, "row(3)", 5, "count(5)", 9, "wipe()", 9);
    }

    // ---- 16 fault

    private static void withoutSigns() {
        doc.sentence("without signs a PLAN without BATCHES.");
        for (String jobs : new String[] {"", JOBS, SEVEN}) {
            doc.due(Run.of(jobs), "fault()", NONE, "row(0)", 0, "row(1)", 0, "row(2)", 0, "row(3)", 0, "row(4)", 0);
        }
        doc.sentence("THE FAULT of THE PAD; NONE.");
        fault("", NONE);
        fault("0", NONE);
        fault("4/3/2/1/0", NONE);
    }

    private static void figuresThatStand() {
        doc.sentence("figures 0 to 6 (JOBS), and / between BATCHES");
        for (int n = 0; n <= 7; n++) {
            for (int sign = 33; sign <= 126; sign++) {
                boolean stands = sign >= '0' && sign < '0' + n;
                Run run = Run.of(jobs(n), "say(" + sign + ")");
                doc.due(run, "fault()", stands ? NONE : 0, "row(4)", stands ? 1 << sign - '0' : FAULT);
            }
        }
    }

    private static void signsBehindAJob() {
        doc.sentence("figures 0 to 6 (JOBS), and / between BATCHES");
        for (int sign = 33; sign <= 126; sign++) {
            boolean stands = sign >= '1' && sign <= '6';
            int want = stands ? NONE : sign == '/' ? 2 : 1;
            doc.due(Run.of(jobs(7), "say(48); say(" + sign + ")"), "fault()", want, "row(3)", stands ? 1 : FAULT);
        }
    }

    private static void signsBehindABar() {
        doc.sentence("the place, from 0 on, of the first sign that can not stand there");
        for (int sign = 33; sign <= 126; sign++) {
            boolean stands = sign >= '1' && sign <= '6';
            doc.due(Run.of(jobs(7), "pad(0/); say(" + sign + ")"), "fault()", stands ? NONE : 2, "row(3)", stands ? 2 : FAULT);
        }
    }

    private static void noSuchJob() {
        doc.sentence("(a JOB that there is not, or that is told already");
        fault("5", 0);
        fault("6", 0);
        fault("05", 1);
        fault("0/5", 2);
        fault("0/1/2/34/5", 9);
        fault("4", NONE);
        for (int n = 0; n < 7; n++) {
            String told = "0123456".substring(0, n);
            doc.due(Run.of(jobs(n), "pad(" + told + ")"), "fault()", NONE, "say(" + ('0' + n) + ")", n + 1, "fault()", n,
                    "job(0, 1, 1)", n, "fault()", NONE);
        }
        doc.due(Run.of(jobs(7), "pad(0123456)"), "fault()", NONE, "row(4)", 127, "say(55)", 8, "fault()", 7, "drop(6)", 6,
                "fault()", 6);
    }

    private static void toldAlready() {
        doc.sentence("or that is told already");
        fault("00", 1);
        fault("0/0", 2);
        fault("01/0", 3);
        fault("0/1/2/0", 6);
        fault("3/44", 3);
        for (int j = 0; j < 7; j++) {
            doc.due(Run.of(jobs(7), "pad(0123456)", "say(" + ('0' + j) + ")"), "fault()", 7);
            doc.due(Run.of(jobs(7), "pad(0123456/)", "say(" + ('0' + j) + ")"), "fault()", 8);
        }
        doc.due(Run.of(jobs(7), "pad(0/1/2/3/4/5/60)"), "count(5)", 14, "fault()", 13);
    }

    private static void anotherFamily() {
        doc.sentence("one of another FAMILY than the JOB ahead of it in its BATCH");
        fault("03", 1);
        fault("30", 1);
        fault("0/3", NONE);
        fault("3/0", NONE);
        fault("0/34", NONE);
        fault("0/32", 3);
        fault("02/43", NONE);
        fault("02/43/1", NONE);
        fault("024", 2);
        // alike in heat and cook is not of one family
        doc.due(Run.of(JOBS, "family(1, 0, 3); set(0, 20); pad(03)"), "fault()", 1);
    }

    private static void noRoom() {
        doc.sentence("one for which there is no room in it");
        // volumes 4, 6, 1 in room 10
        fault("01", NONE);
        fault("012", 2);
        fault("02", NONE);
        fault("021", 2);
        fault("0/12", NONE);
        fault("34", NONE);
        for (int room = 9; room <= 17; room++) {
            String jobs = "set(0, " + room + "); job(0, " + (room - 8) + ", 0); job(0, 8, 0); job(0, 9, 0); job(0, 1, 0); ";
            doc.due(Run.of(jobs, "pad(01)"), "fault()", NONE, "row(3)", 1, "say(51)", 3, "fault()", 2);
            doc.due(Run.of(jobs, "pad(10)"), "fault()", NONE);
            doc.due(Run.of(jobs, "pad(02)"), "fault()", 1, "row(3)", FAULT);
            doc.due(Run.of(jobs, "pad(20)"), "fault()", 1);
            doc.due(Run.of(jobs, "pad(2/01)"), "fault()", NONE);
        }
        for (int room = 18; room <= 20; room++) {
            String jobs = "set(0, " + room + "); job(0, 9, 0); job(0, 8, 0); job(0, " + (room - 17) + ", 0); job(0, "
                    + (room - 16) + ", 0); ";
            doc.due(Run.of(jobs, "pad(012)"), "fault()", NONE);
            doc.due(Run.of(jobs, "pad(013)"), "fault()", 2);
            doc.due(Run.of(jobs, "pad(310)"), "fault()", 2);
        }
        doc.due(Run.of(JOBS, "pad(01)"), "set(0, 9)", 10, "fault()", 1, "set(0, 10)", 9, "fault()", NONE);
    }

    private static void barAtTheBeginning() {
        doc.sentence("a / at the beginning, or behind a /)");
        fault("/", 0);
        fault("//", 0);
        fault("/0", 0);
        fault("/0/1", 0);
        doc.due(Run.of("pad(/)"), "fault()", 0);
    }

    private static void barBehindABar() {
        doc.sentence("a / at the beginning, or behind a /)");
        fault("0//", 2);
        fault("0//1", 2);
        fault("0/1//", 4);
        fault("0/1/2/3/4//", 10);
        fault("01/34//2", 6);
        doc.due(Run.of(jobs(7), "pad(0/1/2/3/456///)"), "count(5)", 14, "fault()", 12);
        doc.due(Run.of(jobs(7), "pad(0/1/2/3/4/56//)"), "count(5)", 14, "fault()", 13);
    }

    private static void barAtTheEnd() {
        doc.sentence("or how many signs it has, if more must come (behind a / at the end); NONE: there is none.");
        fault("0/", 2);
        fault("01/", 3);
        fault("0/1/", 4);
        fault("0/1/2/34/", 9);
        doc.due(Run.of(JOBS, "pad(0/)"), "fault()", 2, "say(49)", 3, "fault()", NONE);
        // no job is left that could come: one must all the same
        doc.due(Run.of("job(0, 1, 1); pad(0/)"), "fault()", 2);
        // all places taken: none can come any more
        doc.due(Run.of(jobs(7), "pad(0/1/2/3/4/5/6)"), "count(5)", 13, "fault()", NONE, "row(3)", 7, "say(47)", 14,
                "fault()", 14, "row(3)", FAULT, "say(48)", FULL, "fault()", 14);
    }

    private static void theFirstOfSeveral() {
        doc.sentence("the place, from 0 on, of the first sign that can not stand there");
        fault("x/", 0);
        fault("0x/", 1);
        fault("0/0//", 2);
        fault("0/x/0/", 2);
        fault("0//x", 2);
        fault("9/0//1", 0);
        fault("012/012/", 2);
        fault("03/03/", 1);
        fault("0/1/2/3/4/5/6/", 10);
    }

    // ---- 17 row

    private static void rowEach() {
        doc.sentence("Of the PLAN on THE PAD: the measures 0 to 3, the set of its JOBS (4). OUTSIDE; FAULT.");
        // ENDS 8 and 16: job 3 is late by 4
        doc.due(Run.of(pad("01/34")), "row(0)", 4, "row(1)", 4, "row(2)", 16, "row(3)", 2, "row(4)", 27);
        doc.due(Run.of(pad("2")), "row(0)", 0, "row(1)", 0, "row(2)", 8, "row(3)", 1, "row(4)", 4);
        doc.due(Run.of(jobs(7), "pad(6/5/4/3/2/1/0)"), "row(0)", 0, "row(1)", 0, "row(2)", 38, "row(3)", 7, "row(4)", 127);
    }

    private static void rowRefused() {
        doc.sentence("the set of its JOBS (4). OUTSIDE; FAULT.");
        for (String signs : new String[] {"", "01/3", "0/", "/"}) {
            doc.refusedOutside(pad(signs), "row(%)", 0, 4, OUTSIDE);
        }
        for (String signs : new String[] {"/", "0/", "5", "00", "03", "012", "0//1", "x"}) {
            for (int what = 0; what <= 4; what++) {
                doc.refused(pad(signs), "row(" + what + ")", FAULT);
            }
        }
    }

    // ---- 18 at

    private static void atEach() {
        doc.sentence("END of the BATCH of a JOB in the PLAN on THE PAD; NONE: it is not in it. UNKNOWN; FAULT.");
        doc.due(Run.of(pad("")), "at(0)", NONE, "at(4)", NONE, "at(5)", UNKNOWN);
        doc.due(Run.of(pad("4/02")), "at(0)", 19, "at(1)", NONE, "at(2)", 19, "at(3)", NONE, "at(4)", 11, "at(5)", UNKNOWN);
        Run seven = Run.of(jobs(7), "pad(6/5/4/3/2/1/0)");
        for (int j = 0; j < 7; j++) {
            doc.due(seven, "at(" + j + ")", 38 - 5 * j);
        }
        doc.due(seven, "at(7)", UNKNOWN);
    }

    private static void atRefused() {
        doc.sentence("NONE: it is not in it. UNKNOWN; FAULT.");
        doc.refusedOutside("", "at(%)", 0, -1, UNKNOWN);
        doc.refusedOutside(pad("01/3"), "at(%)", 0, 4, UNKNOWN);
        doc.refusedOutside(pad("0/"), "at(%)", 0, 4, UNKNOWN);
        doc.refusedOutside(SEVEN + "; pad(0/1/2/3/4/5/6)", "at(%)", 0, 6, UNKNOWN);
        for (String signs : new String[] {"/", "0/", "5", "00", "03", "012", "0//1", "x"}) {
            doc.refused(pad(signs), "at(0)", FAULT);
            doc.refused(pad(signs), "at(4)", FAULT);
        }
    }

    // ---- 19 put

    /** Six batches that end at 8, 13, .. 33; each is due so that job 6 by itself fits in ahead of batch b alone. */
    private static void putAheadAndBehind() {
        doc.sentence("at place 2 b it is a BATCH by itself, ahead of BATCH b (behind all, if b is how many BATCHES there are)");
        for (int b = 0; b <= 6; b++) {
            StringBuilder jobs = new StringBuilder();
            for (int j = 0; j < 6; j++) {
                jobs.append("job(0, 9, ").append(8 + 5 * (j < b ? j : j + 1)).append("); ");
            }
            Run run = Run.of(jobs + "job(0, 9, " + (8 + 5 * b) + "); pad(0/1/2/3/4/5)");
            doc.due(run, "put(6, 0)", 0, "put(6, 1)", 2 * b, "due(6, " + (7 + 5 * b) + ")", 8 + 5 * b, "put(6, 0)", 1,
                    "put(6, 1)", 2 * b);
        }
    }

    /** Job 6 has room with the job of volume 8 alone; by itself it makes those behind it late. */
    private static void putIntoABatch() {
        doc.sentence("at place 2 b and 1, added, it goes into BATCH b (of its FAMILY, if there is room)");
        for (int b = 0; b < 6; b++) {
            StringBuilder jobs = new StringBuilder("set(0, 9); ");
            for (int j = 0; j < 6; j++) {
                jobs.append("job(0, ").append(j == b ? 8 : 9).append(", ").append(8 + 5 * j).append("); ");
            }
            Run run = Run.of(jobs + "job(0, 1, 99); pad(0/1/2/3/4/5)");
            doc.due(run, "put(6, 0)", 0, "put(6, 1)", 2 * b + 1, "due(6, " + (7 + 5 * b) + ")", 99, "put(6, 0)", 1,
                    "put(6, 1)", 2 * b + 1);
        }
    }

    private static void putIntoItsFamilyAlone() {
        doc.sentence("it goes into BATCH b (of its FAMILY, if there is room)");
        // the families are alike in all: job 1 is late by 5 behind job 0, and would not be with it
        String alike = "family(1, 0, 3); set(0, 20); job(0, 1, 8); ";
        doc.due(Run.of(alike, "job(1, 1, 8); pad(0)"), "put(1, 0)", 5, "put(1, 1)", 0);
        doc.due(Run.of(alike, "job(0, 1, 8); pad(0)"), "put(1, 0)", 0, "put(1, 1)", 1);
    }

    private static void putWhereThereIsRoom() {
        doc.sentence("it goes into BATCH b (of its FAMILY, if there is room)");
        for (int room = 9; room <= 17; room++) {
            String jobs = "set(0, " + room + "); job(0, " + (room - 8) + ", 8); ";
            doc.due(Run.of(jobs, "job(0, 8, 8); pad(0)"), "put(1, 0)", 0, "put(1, 1)", 1);
            doc.due(Run.of(jobs, "job(0, 9, 8); pad(0)"), "put(1, 0)", 5, "put(1, 1)", 0);
        }
        for (int room = 18; room <= 20; room++) {
            String jobs = "set(0, " + room + "); job(0, 9, 8); job(0, 8, 8); ";
            doc.due(Run.of(jobs, "job(0, " + (room - 17) + ", 8); pad(01)"), "put(2, 0)", 0, "put(2, 1)", 1);
            doc.due(Run.of(jobs, "job(0, " + (room - 16) + ", 8); pad(01)"), "put(2, 0)", 5, "put(2, 1)", 2);
        }
    }

    private static void putAtTheLeastPlace() {
        doc.sentence("the least SUM that comes of it; the least place by which it does.");
        // never late: 0 of 0, 1, 2; 0 of 0, 2, 4 where it has room nowhere
        doc.due(Run.of(jobs(2), "pad(0)"), "put(1, 0)", 0, "put(1, 1)", 0);
        doc.due(Run.of("job(0, 9, 99); job(0, 9, 99); job(0, 9, 99); pad(0/1)"), "put(2, 1)", 0);
        // late by itself at the beginning (job 0 by 3), not with job 0, nor behind it: 1 of 1, 2
        doc.due(Run.of("job(0, 1, 10); job(0, 1, 99); pad(0)"), "put(1, 0)", 0, "put(1, 1)", 1);
        // of one sum with job 0 and with job 2: the first of them
        doc.due(Run.of("job(0, 1, 8); job(0, 1, 99); job(0, 1, 13); pad(0/2)"), "put(1, 0)", 0, "put(1, 1)", 1);
        // alike late by itself ahead and behind: 0 of 0 and 2
        doc.due(Run.of("job(0, 9, 10); job(0, 9, 10); pad(0)"), "put(1, 0)", 3, "put(1, 1)", 0);
    }

    private static void putIntoNothing() {
        doc.sentence("(behind all, if b is how many BATCHES there are)");
        doc.due(Run.of("job(2, 9, 14)"), "put(0, 0)", 0, "put(0, 1)", 0);
        doc.due(Run.of("job(2, 9, 13)"), "put(0, 0)", 1, "put(0, 1)", 0);
        doc.due(Run.of("set(1, 3); family(2, 1, 20); job(2, 9, 0)"), "put(0, 0)", 47, "put(0, 1)", 0);
    }

    private static void putCountsThePlanAlone() {
        doc.sentence("PUT IN: a JOB that is not in the PLAN on THE PAD goes into it, all else being as it is");
        // job 2 is in no plan: late as it would be, it counts for nothing
        Run run = Run.of("job(0, 9, 8); job(0, 9, 13); job(0, 9, 0); pad(0)");
        doc.due(run, "put(1, 0)", 0, "put(1, 1)", 2, "count(5)", 1, "row(4)", 1, "row(3)", 1, "at(1)", NONE);
        // what is late ahead of it stays so, and is added
        doc.due(Run.of("job(0, 9, 0); job(0, 9, 13); pad(0)"), "put(1, 0)", 8, "put(1, 1)", 2);
    }

    private static void putRefused() {
        doc.sentence("PUT IN: the SUM (what = 0), the place (1). UNKNOWN; OUTSIDE; FAULT; STATE: the JOB is in the PLAN.");
        doc.refusedOutside("", "put(%, 0)", 0, -1, UNKNOWN);
        for (String signs : new String[] {"01/3", "0/"}) {
            doc.refusedOutside(pad(signs), "put(%, 0)", 0, 4, UNKNOWN);
            doc.refusedOutside(pad(signs), "put(2, %)", 0, 1, OUTSIDE);
            doc.refusedOutside(pad(signs), "put(0, %)", 0, 1, OUTSIDE);
            doc.refused(pad(signs), "put(5, 2)", UNKNOWN);
            doc.refused(pad(signs), "put(-1, -1)", UNKNOWN);
        }
        doc.refusedOutside(SEVEN + "; pad(0/1/2/3/4/5/6)", "put(%, 1)", 0, 6, UNKNOWN);
        for (String signs : new String[] {"/", "0/", "5", "00", "03", "012", "0//1", "x"}) {
            for (int what = 0; what <= 1; what++) {
                doc.refused(pad(signs), "put(0, " + what + ")", FAULT);
                doc.refused(pad(signs), "put(4, " + what + ")", FAULT);
            }
        }
    }

    private static void putOfOneThatIsIn() {
        doc.sentence("STATE: the JOB is in the PLAN.");
        for (int what = 0; what <= 1; what++) {
            for (int job = 0; job < 5; job++) {
                if (job != 2) {
                    doc.refused(pad("1/34/0"), "put(" + job + ", " + what + ")", STATE);
                }
            }
            for (int job = 0; job < 7; job++) {
                doc.refused(SEVEN + "; pad(0/1/2/3/4/5/6)", "put(" + job + ", " + what + ")", STATE);
            }
        }
        // ENDS 8, 16, 24: jobs 3 and 0 are late by 4 and 14, and job 2 goes in with job 1
        doc.due(Run.of(pad("1/34/0")), "put(2, 0)", 18, "put(2, 1)", 1, "put(0, 0)", STATE, "wipe()", 6, "put(0, 0)", 0);
    }
}
