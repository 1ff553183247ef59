/** States that refused calls are made in; the images in them are unlike what the object is at the end. */
final class States {
    static final String NEW = "";
    /** Five JOBS, one IMAGE, a PLAN without a fault that leaves two of them out. */
    static final String SOME = "job(0, 4, 10); job(0, 6, 20); job(1, 5, 12); job(1, 6, 30); job(2, 9, 25);"
            + " image(1); due(0, 11); pad(01/2)";
    /** All seven JOBS, both IMAGES. */
    static final String SEVEN = "job(0, 1, 1); job(0, 2, 2); job(1, 3, 3); image(0); job(1, 4, 4); job(2, 5, 5);"
            + " job(2, 6, 6); job(0, 7, 7); image(1); set(0, 12); pad(0/1/2/3/4/5)";
    static final String FAULTY = "job(0, 4, 10); job(0, 6, 20); job(1, 5, 12); image(0); pad(0/)";
    /** All 14 places of THE PAD are taken. */
    static final String FULL_PAD = "job(0, 4, 10); job(0, 6, 20); job(1, 5, 12); image(0); pad(0/1/2/0/1/2/0/)";

    private States() {
    }
}
