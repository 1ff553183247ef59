/** Promises 20 to 22. */
public final class ImageBoundsTest {
    private static final int UNKNOWN = Sentences.UNKNOWN, OUTSIDE = Sentences.OUTSIDE, STATE = Sentences.STATE;
    private static final int FULL = Sentences.FULL, NONE = Sentences.NONE;

    private static final String SOME = "job(0, 4, 10); job(0, 6, 20); job(1, 5, 12); job(1, 6, 30); job(2, 9, 25); pad(01/2)";
    private static final String SEVEN = "job(0, 1, 1); job(0, 2, 2); job(1, 3, 3); job(1, 4, 4); job(2, 5, 5);"
            + " job(2, 6, 6); job(0, 7, 7); set(0, 12); pad(0/1/2/3/4/5)";
    /** Each thing that an image keeps, changed by itself. */
    private static final String[] CHANGES = {"family(0, 0, 0)", "family(1, 0, 9)", "family(2, 0, 1)", "family(0, 1, 1)",
        "family(1, 1, 20)", "family(2, 1, 7)", "set(0, 20)", "set(1, 3)", "set(2, 0)", "job(1, 9, 99)", "drop(0)",
        "drop(4)", "due(0, 0)", "due(4, 99)", "drop(0); drop(0); drop(0); drop(0); drop(0)"};

    private static final Sentences doc = new Sentences("ImageBoundsTest");

    public static void main(String[] args) {
        imagesAreTwo();
        imageRefused();
        inPlaceOfWhatWasKept();
        allIsKept();
        thePadIsNot();
        imagesAreNot();
        theImageStays();
        nothingIsKeptTooMuch();
        restoreRefused();
        restoreOfNone();
        countJobs();
        countVolumes();
        countNumbers();
        countSigns();
        countFamilies();
        countImages();
        countRefused();
        doc.finish();
    }

    // ---- 20 image

    private static void imagesAreTwo() {
        doc.sentence("All but THE PAD and IMAGES is kept in an IMAGE (0, 1), in place of what was kept there: 1. OUTSIDE.");
        doc.due(Run.of(), "image(0)", 1, "image(0)", 1, "image(1)", 1, "image(1)", 1, "restore(0)", 1, "restore(1)", 1);
        doc.due(Run.of(SEVEN), "image(0)", 1, "image(1)", 1, "restore(1)", 1, "restore(0)", 1, "count(0)", 7);
    }

    private static void imageRefused() {
        doc.sentence("in an IMAGE (0, 1), in place of what was kept there: 1. OUTSIDE.");
        doc.refusedOutside("", "image(%)", 0, 1, OUTSIDE);
        doc.refusedOutside(SOME, "image(%)", 0, 1, OUTSIDE);
        doc.refusedOutside(SOME + "; image(0); image(1); drop(0)", "image(%)", 0, 1, OUTSIDE);
    }

    private static void inPlaceOfWhatWasKept() {
        doc.sentence("in place of what was kept there: 1.");
        for (int k = 0; k < 2; k++) {
            Run run = Run.of(SOME, "image(" + k + "); drop(0); set(0, 15); image(" + k + "); drop(0); set(0, 20)");
            doc.due(run, "restore(" + k + ")", 1, "count(0)", 4, "count(2)", 15, "restore(" + (1 - k) + ")", STATE);
            // more, then none at all: nothing of the earlier one is left
            Run none = Run.of("image(" + k + ")", SEVEN, "image(" + k + ")", "drop(0); ".repeat(7) + "image(" + k + ")",
                    "job(0, 1, 1); restore(" + k + ")");
            doc.due(none, "count(0)", 0, "of(0, 0)", UNKNOWN, "count(1)", 0, "count(6)", 0);
        }
    }

    // ---- 21 restore

    private static void allIsKept() {
        doc.sentence("All but THE PAD and IMAGES is as it was when it was kept");
        for (String change : CHANGES) {
            for (int k = 0; k < 2; k++) {
                String kept = SOME + "; image(" + k + ")";
                String back = "; restore(" + k + ")";
                doc.holds(change + " is undone", Run.of(kept + "; " + change + back).all().equals(Run.of(kept).all()));
                doc.holds(change + " is undone, asked for before", Run.of(kept, change, Sentences.ASKED, back).all()
                        .equals(Run.of(kept).all()));
                // and the other way: kept with the change, undone, and there again
                String other = SOME + "; image(0); " + change + "; image(1)";
                doc.holds(change + " is kept", Run.of(other, "restore(0); restore(1)").all().equals(Run.of(other).all()));
            }
        }
        // back to no jobs, and back to seven
        doc.due(Run.of("image(0)", SEVEN, "restore(0)"), "count(0)", 0, "of(0, 0)", UNKNOWN, "count(2)", 10, "job(1, 2, 3)", 0);
        doc.due(Run.of(SEVEN, "image(1)", "drop(0); ".repeat(7) + "restore(1)"), "count(0)", 7, "of(6, 1)", 7, "count(1)", 28,
                "job(0, 1, 1)", FULL);
    }

    private static void thePadIsNot() {
        doc.sentence("All but THE PAD and IMAGES is as it was when it was kept");
        doc.due(Run.of(SOME, "image(0); wipe(); restore(0)"), "count(5)", 0, "row(4)", 0);
        doc.due(Run.of(SOME, "image(0); pad(34/4567890)"), "count(5)", 14, "restore(0)", 1, "count(5)", 14, "say(48)", FULL);
        for (int n = 0; n <= 14; n++) {
            Run run = Run.of("job(0, 1, 1); pad(" + "0/1/2/3/4/5/6/".substring(0, n) + ")");
            doc.due(run, "image(0)", 1, "count(5)", n, "image(1)", 1, "count(5)", n, "restore(0)", 1, "count(5)", n,
                    "restore(1)", 1, "wipe()", n);
        }
        doc.due(Run.of("image(0)", SOME), "fault()", NONE, "restore(0)", 1, "count(5)", 4, "fault()", 0);
        doc.due(Run.of(SOME, "image(0); drop(2); drop(2); drop(2)"), "fault()", 3, "restore(0)", 1, "fault()", NONE, "row(4)", 7);
    }

    private static void imagesAreNot() {
        doc.sentence("All but THE PAD and IMAGES is as it was when it was kept");
        // image 0 was kept when there was no image: image 1 stays all the same
        doc.due(Run.of(SOME, "image(0); drop(0); image(1); drop(0)"), "restore(0)", 1, "count(7)", 3, "count(0)", 5,
                "restore(1)", 1, "count(0)", 4, "count(7)", 3);
        doc.due(Run.of(SOME, "image(1); drop(0); image(0); drop(0)"), "restore(1)", 1, "count(7)", 3, "restore(0)", 1,
                "count(0)", 4);
        doc.due(Run.of(SOME, "image(1); restore(1)"), "count(7)", 2, "restore(0)", STATE);
    }

    private static void theImageStays() {
        doc.sentence("the IMAGE stays: 1.");
        for (String change : CHANGES) {
            String kept = SOME + "; image(0)";
            doc.holds(change + " behind restore does not go into the image",
                    Run.of(kept, "restore(0)", change, "restore(0)").all().equals(Run.of(kept).all()));
            doc.holds(change + " behind image does not go into it",
                    Run.of(kept, change, "restore(0)", change, "restore(0)").all().equals(Run.of(kept).all()));
        }
        Run run = Run.of(SOME, "image(1)");
        for (int round = 0; round < 40; round++) {
            doc.due(run, "drop(0)", 4, "due(0, 77)", 20, "restore(1)", 1, "count(0)", 5, "of(1, 2)", 20, "count(7)", 2);
        }
    }

    private static void nothingIsKeptTooMuch() {
        doc.sentence("All but THE PAD and IMAGES is kept in an IMAGE (0, 1)");
        // of a job dropped ahead of image nothing comes back
        doc.due(Run.of(SOME, "drop(4); image(0); job(1, 1, 1); restore(0)"), "count(0)", 4, "of(4, 0)", UNKNOWN,
                "job(0, 2, 3)", 4, "of(4, 0)", 0, "of(4, 1)", 2, "of(4, 2)", 3);
    }

    private static void restoreRefused() {
        doc.sentence("the IMAGE stays: 1. OUTSIDE; STATE: nothing was kept in it.");
        doc.refusedOutside("", "restore(%)", 0, 1, OUTSIDE);
        doc.refusedOutside(SOME, "restore(%)", 0, 1, OUTSIDE);
        doc.refusedOutside(SOME + "; image(0); image(1); drop(0)", "restore(%)", 0, 1, OUTSIDE);
    }

    private static void restoreOfNone() {
        doc.sentence("STATE: nothing was kept in it.");
        for (String state : new String[] {"", SOME, SEVEN}) {
            doc.refused(state, "restore(0)", STATE);
            doc.refused(state, "restore(1)", STATE);
            doc.refused(state + "; image(0); set(0, 11)", "restore(1)", STATE);
            doc.refused(state + "; image(1); set(0, 11)", "restore(0)", STATE);
        }
        // an image of an object without jobs is one
        doc.due(Run.of("image(0); job(0, 1, 1)"), "restore(0)", 1, "count(0)", 0);
    }

    // ---- 22 count

    private static void countJobs() {
        doc.sentence("JOBS (0), VOLUMES of all, added (1)");
        Run run = Run.of();
        for (int n = 0; n < 7; n++) {
            doc.due(run, "count(0)", n, "count(1)", 9 * n, "job(0, 9, 0)", n);
        }
        doc.due(run, "count(0)", 7, "count(1)", 63, "job(0, 9, 0)", FULL, "count(0)", 7, "count(1)", 63);
    }

    private static void countVolumes() {
        doc.sentence("VOLUMES of all, added (1)");
        doc.due(Run.of(), "count(1)", 0);
        doc.due(Run.of(SEVEN), "count(1)", 28, "drop(6)", 6, "count(1)", 21, "drop(0)", 5, "count(1)", 20, "wipe()", 11,
                "count(1)", 20);
    }

    private static void countNumbers() {
        doc.sentence("ROOM (2), UP (3), DOWN (4)");
        doc.due(Run.of("set(0, 20); set(1, 3); set(2, 0)"), "count(2)", 20, "count(3)", 3, "count(4)", 0);
        doc.due(Run.of("set(0, 9); set(1, 0); set(2, 3)"), "count(2)", 9, "count(3)", 0, "count(4)", 3);
        doc.sentence("HEAT of FAMILY what less 10 (10 to 12), COOK of FAMILY what less 20 (20 to 22)");
        doc.due(Run.of("family(0, 0, 0); family(1, 0, 8); family(2, 0, 2)", "family(0, 1, 20); family(1, 1, 1); family(2, 1, 13)"),
                "count(10)", 0, "count(11)", 8, "count(12)", 2, "count(20)", 20, "count(21)", 1, "count(22)", 13);
    }

    private static void countSigns() {
        doc.sentence("signs of THE PAD (5)");
        Run run = Run.of();
        for (int n = 0; n < 14; n++) {
            doc.due(run, "count(5)", n, "say(33)", n + 1);
        }
        doc.due(run, "count(5)", 14, "say(33)", FULL, "count(5)", 14, "wipe()", 14, "count(5)", 0);
    }

    private static void countFamilies() {
        doc.sentence("FAMILIES that some JOB is of (6)");
        for (int families = 0; families < 8; families++) {
            StringBuilder jobs = new StringBuilder();
            for (int f = 2; f >= 0; f--) {
                if ((families >> f & 1) == 1) {
                    jobs.append("job(").append(f).append(", 1, 1); job(").append(f).append(", 2, 2); ");
                }
            }
            doc.due(Run.of(jobs.toString()), "count(6)", Integer.bitCount(families));
        }
        doc.due(Run.of("job(1, 1, 1); job(1, 1, 1); job(2, 1, 1)"), "count(6)", 2, "drop(0)", 2, "count(6)", 2, "drop(0)", 1,
                "count(6)", 1, "drop(0)", 0, "count(6)", 0);
    }

    private static void countImages() {
        doc.sentence("which IMAGES are kept, a set: bits 0, 1 (7)");
        doc.due(Run.of(), "count(7)", 0, "image(0)", 1, "count(7)", 1, "image(0)", 1, "count(7)", 1, "image(1)", 1,
                "count(7)", 3, "image(1)", 1, "count(7)", 3, "restore(0)", 1, "count(7)", 3, "restore(1)", 1, "count(7)", 3);
        doc.due(Run.of(), "image(1)", 1, "count(7)", 2, "image(2)", OUTSIDE, "count(7)", 2, "restore(0)", STATE, "count(7)", 2,
                "restore(1)", 1, "count(7)", 2);
    }

    private static void countRefused() {
        doc.sentence("which IMAGES are kept, a set: bits 0, 1 (7). OUTSIDE.");
        for (int what : Sentences.outside(0, 22)) {
            doc.refused(SOME, "count(" + what + ")", OUTSIDE);
        }
        for (int what : new int[] {-1, 8, 9, 13, 14, 15, 16, 17, 18, 19, 23, 24, 30, 32}) {
            doc.refused("", "count(" + what + ")", OUTSIDE);
            doc.refused(SEVEN, "count(" + what + ")", OUTSIDE);
        }
    }
}
