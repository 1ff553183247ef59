/** Promises 20 to 22. */
public final class ImagesTest {
    private static final int OUTSIDE = -2, STATE = -3, NONE = -6;
    private static final int[] FAR = {Integer.MIN_VALUE, -1000, -1, 2, 1000, Integer.MAX_VALUE};

    private static final Check check = new Check("ImagesTest");

    public static void main(String[] args) {
        allIsKept();
        thePadIsNot();
        imagesAreApart();
        imageStays();
        refusals();
        count();
        check.finish();
    }

    private static HeatBatches some() {
        return Check.withJobs(0, 4, 10, 0, 6, 20, 1, 5, 12, 1, 6, 30, 2, 9, 25);
    }

    private static void changeAll(HeatBatches x) {
        for (int family = 0; family < 3; family++) {
            x.family(family, 0, 8 - family);
            x.family(family, 1, 17 + family);
        }
        x.set(0, 19);
        x.set(1, 3);
        x.set(2, 2);
        x.drop(1);
        x.due(0, 77);
        x.job(2, 7, 70);
        x.job(1, 8, 71);
    }

    private static void allIsKept() {
        HeatBatches x = some();
        String before = Check.shop(x);
        check.due("image(0)", x.image(0), 1);
        changeAll(x);
        String changed = Check.shop(x);
        check.holds("all is changed", !before.equals(changed));
        check.due("restore(0)", x.restore(0), 1);
        check.holds("restored is as it was", before.equals(Check.shop(x)));
        check.due("count(0)", x.count(0), 5);
        check.due("of(1, 1)", x.of(1, 1), 6);
        check.due("count(2)", x.count(2), 10);
        check.due("count(10)", x.count(10), 3);
        check.due("count(22)", x.count(22), 5);
        // an image of an object as it is at first, and back from there
        HeatBatches y = new HeatBatches();
        y.image(1);
        changeAll(y);
        y.job(0, 1, 1);
        y.restore(1);
        check.holds("restored is as new", Check.shop(y).equals(Check.shop(new HeatBatches())));
    }

    private static void thePadIsNot() {
        HeatBatches x = Check.say(some(), "01/2");
        x.image(0);
        Check.say(x, "3");
        check.due("fault()", x.fault(), 4);
        x.restore(0);
        check.due("count(5)", x.count(5), 5);
        x.wipe();
        x.restore(0);
        check.due("count(5), wiped", x.count(5), 0);
        check.due("fault(), wiped", x.fault(), NONE);
        Check.say(x, "4");
        x.drop(4);
        check.due("fault(), job 4 is gone", x.fault(), 0);
        x.restore(0);
        check.due("fault(), job 4 is back", x.fault(), NONE);
        check.due("at(4)", x.at(4), 14);
    }

    private static void imagesAreApart() {
        HeatBatches x = new HeatBatches();
        check.due("count(7)", x.count(7), 0);
        x.image(1);
        check.due("count(7), image 1", x.count(7), 2);
        check.due("restore(0), none there", x.restore(0), STATE);
        x.job(0, 1, 1);
        x.image(0);
        check.due("count(7), both", x.count(7), 3);
        x.job(0, 1, 1);
        x.restore(1);
        check.due("count(0), of 1", x.count(0), 0);
        check.due("count(7), both stay", x.count(7), 3);
        x.restore(0);
        check.due("count(0), of 0", x.count(0), 1);
        HeatBatches y = new HeatBatches();
        y.image(0);
        check.due("count(7), image 0", y.count(7), 1);
        check.due("restore(1), none there", y.restore(1), STATE);
    }

    private static void imageStays() {
        HeatBatches x = some();
        x.image(0);
        String before = Check.shop(x);
        x.restore(0);
        changeAll(x);
        x.restore(0);
        check.holds("what comes behind a restore does not go into the image", before.equals(Check.shop(x)));
        changeAll(x);
        String changed = Check.shop(x);
        x.image(0);
        x.drop(0);
        x.restore(0);
        check.holds("a new image takes the place of the old one", changed.equals(Check.shop(x)));
    }

    private static void refusals() {
        for (int far : FAR) {
            check.refused(ImagesTest::some, "image(" + far + ")", x -> x.image(far), OUTSIDE);
            check.refused(ImagesTest::some, "restore(" + far + ")", x -> x.restore(far), OUTSIDE);
        }
        check.refused(ImagesTest::some, "restore(0)", x -> x.restore(0), STATE);
        check.refused(ImagesTest::some, "restore(1)", x -> x.restore(1), STATE);
    }

    private static void count() {
        HeatBatches x = Check.say(some(), "01/2x");
        changeAll(x);
        int[] wants = {6, 4 + 5 + 6 + 9 + 7 + 8, 19, 3, 2, 5, 3, 0};
        for (int what = 0; what < wants.length; what++) {
            check.due("count(" + what + ")", x.count(what), wants[what]);
        }
        for (int family = 0; family < 3; family++) {
            check.due("count(10 + " + family + ")", x.count(10 + family), 8 - family);
            check.due("count(20 + " + family + ")", x.count(20 + family), 17 + family);
        }
        for (int no : new int[] {-1, 8, 9, 13, 14, 19, 23, 24, Integer.MIN_VALUE, Integer.MAX_VALUE}) {
            check.due("count(" + no + ")", x.count(no), OUTSIDE);
        }
        check.due("count(6), family 1 twice", Check.withJobs(1, 1, 1, 1, 1, 1).count(6), 1);
        check.due("count(6), families 0 and 2", Check.withJobs(2, 1, 1, 0, 1, 1, 2, 1, 1).count(6), 2);
    }
}
