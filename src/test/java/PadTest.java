/** Promises 14 to 19. */
public final class PadTest {
    private static final int UNKNOWN = -1, OUTSIDE = -2, STATE = -3, FULL = -4, NONE = -6, FAULT = -7;
    private static final int[] FAR = {Integer.MIN_VALUE, -1000, 1000, Integer.MAX_VALUE};

    private static final Check check = new Check("PadTest");

    public static void main(String[] args) {
        say();
        wipe();
        fault();
        faultAsThingsAre();
        row();
        at();
        put();
        putKeepsAllElse();
        putIntoSeven();
        refusals();
        check.finish();
    }

    /** Of family 0: jobs 0, 1, 2; of family 1: 3, 4. */
    private static HeatBatches some() {
        return Check.withJobs(0, 4, 10, 0, 6, 20, 0, 1, 30, 1, 5, 12, 1, 5, 40);
    }

    private static HeatBatches some(String signs) {
        return Check.say(some(), signs);
    }

    private static void say() {
        HeatBatches x = new HeatBatches();
        int[] signs = {33, 126, '0', '/', '6', '7', ':', '.', 'a', 'Z', '/', '/', '9', '1'};
        for (int i = 0; i < signs.length; i++) {
            check.due("say " + i, x.say(signs[i]), i + 1);
            check.due("count(5)", x.count(5), i + 1);
        }
        check.due("say(48), 14 are there", x.say(48), FULL);
        check.due("say(32), 14 are there", x.say(32), OUTSIDE);
        check.due("count(5)", x.count(5), 14);
    }

    private static void wipe() {
        HeatBatches x = some("01/3");
        check.due("wipe()", x.wipe(), 4);
        check.due("wipe() again", x.wipe(), 0);
        check.due("row(4)", x.row(4), 0);
        check.due("say", x.say('3'), 1);
        check.due("row(4)", x.row(4), 8);
        HeatBatches y = some("01010101010101");
        check.due("wipe() of 14", y.wipe(), 14);
        check.due("say", y.say('3'), 1);
        check.due("fault()", y.fault(), NONE);
    }

    private static void fault(String signs, int want) {
        check.due("fault() of " + signs, some(signs).fault(), want);
    }

    private static void fault() {
        fault("", NONE);
        fault("0", NONE);
        fault("01", NONE);
        fault("10", NONE);
        fault("01/2/34", NONE);
        fault("4/3/2/1/0", NONE);
        fault("/", 0);
        fault("/0", 0);
        fault("0/", 2);
        fault("0//1", 2);
        fault("0/1/", 4);
        fault("5", 0);
        fault("0/5", 2);
        fault("7", 0);
        fault("9", 0);
        fault(":", 0);
        fault(".", 0);
        fault("~", 0);
        fault("!", 0);
        fault("0a", 1);
        fault("00", 1);
        fault("0/0", 2);
        fault("0/3/2/0", 6);
        fault("03", 1);
        fault("30", 1);
        fault("012", 2);
        fault("0/12/34", NONE);
        fault("0/12/340", 7);
        fault("0/1/2/3/4/5/6/", 10);
        fault("05/", 1);
        HeatBatches seven = Check.withJobs(0, 1, 0, 0, 1, 0, 0, 1, 0, 1, 1, 0, 1, 1, 0, 2, 1, 0, 2, 1, 0);
        check.due("fault() of seven", Check.say(seven, "0/1/2/3/4/5/6").fault(), NONE);
        check.due("row(3)", seven.row(3), 7);
        seven.say('/');
        check.due("fault() behind 14 signs", seven.fault(), 14);
        seven.wipe();
        check.due("a 7 where there are 7", Check.say(seven, "0/7").fault(), 2);
    }

    private static void faultAsThingsAre() {
        HeatBatches x = some("01/2/34");
        x.set(0, 9);
        check.due("fault(), less room", x.fault(), 1);
        check.due("row(0), less room", x.row(0), FAULT);
        x.set(0, 10);
        check.due("fault(), room again", x.fault(), NONE);
        x.drop(4);
        check.due("fault(), a job less", x.fault(), 6);
        x.job(0, 1, 1);
        check.due("fault(), one of another family in its stead", x.fault(), 6);
        check.due("count(5)", x.count(5), 7);
    }

    private static void row() {
        // ends 8 and 16: late by 0, 0; by 4 and 0
        HeatBatches x = some("01/34");
        int[] wants = {4, 4, 16, 2, 27};
        for (int what = 0; what < 5; what++) {
            check.due("row(" + what + ")", x.row(what), wants[what]);
        }
        // ends 11, 19, 24: late by 0, by 9, by 4
        HeatBatches y = some("3/0/1");
        int[] others = {9, 13, 24, 3, 11};
        for (int what = 0; what < 5; what++) {
            check.due("row(" + what + ") of 3/0/1", y.row(what), others[what]);
        }
        y.set(2, 0);
        check.due("row(2), down 0", y.row(2), 21);
        y.due(1, 0);
        check.due("row(0), due at 0", y.row(0), 21);
        check.due("row(1), due at 0", y.row(1), 21 + 6);
    }

    private static void at() {
        HeatBatches x = some("3/0/1");
        check.due("at(3)", x.at(3), 11);
        check.due("at(0)", x.at(0), 19);
        check.due("at(1)", x.at(1), 24);
        check.due("at(2)", x.at(2), NONE);
        check.due("at(4)", x.at(4), NONE);
        check.due("at(5)", x.at(5), UNKNOWN);
        check.due("at(0), an empty pad", some("").at(0), NONE);
    }

    private static void put() {
        // 0 ends at 8, 3 at 16 (late by 4)
        HeatBatches x = some("0/3");
        // with 0: no later for any
        check.due("put(1, 0)", x.put(1, 0), 4);
        check.due("put(1, 1)", x.put(1, 1), 1);
        check.due("put(4, 0)", x.put(4, 0), 4);
        check.due("put(4, 1)", x.put(4, 1), 3);
        // nothing late wherever it goes: the least place
        HeatBatches y = Check.say(Check.withJobs(0, 4, 99, 0, 4, 99, 1, 4, 99), "0/2");
        check.due("put(1, 0), all alike", y.put(1, 0), 0);
        check.due("put(1, 1), all alike", y.put(1, 1), 0);
        // no room with 0: behind it job 1 is late by 1, ahead of it makes job 0 late by 3
        HeatBatches z = Check.say(Check.withJobs(0, 9, 10, 0, 9, 12), "0");
        check.due("put(1, 0), no room", z.put(1, 0), 1);
        check.due("put(1, 1), behind all", z.put(1, 1), 2);
        z.due(1, 7);
        check.due("put(1, 0), ahead", z.put(1, 0), 1 + 3);
        check.due("put(1, 1), ahead", z.put(1, 1), 0);
        // an empty pad: a batch by itself
        HeatBatches w = some("");
        check.due("put(3, 0), an empty pad", w.put(3, 0), 0);
        w.due(3, 2);
        check.due("put(3, 0), an empty pad, late", w.put(3, 0), 9);
        check.due("put(3, 1), an empty pad", w.put(3, 1), 0);
        // between two: 0 ends at 8, then 1 at 16, 2 at 24
        HeatBatches v = Check.say(Check.withJobs(0, 9, 8, 1, 9, 16, 2, 9, 99), "0/2");
        check.due("put(1, 0), between", v.put(1, 0), 0);
        check.due("put(1, 1), between", v.put(1, 1), 2);
    }

    private static void putKeepsAllElse() {
        HeatBatches x = some("0/3");
        String before = Check.shop(x);
        x.put(1, 0);
        x.put(4, 1);
        check.due("count(5)", x.count(5), 3);
        check.due("row(4)", x.row(4), 9);
        check.due("row(3)", x.row(3), 2);
        check.due("at(1)", x.at(1), NONE);
        check.holds("put changes nothing", before.equals(Check.shop(x)));
    }

    private static void putIntoSeven() {
        HeatBatches x = Check.withJobs(0, 9, 0, 0, 9, 0, 0, 9, 0, 1, 9, 0, 1, 9, 0, 2, 9, 0, 2, 9, 0);
        Check.say(x, "0/1/2/3/4/5");
        // 8 13 18 26 31 39 44
        check.due("put(6, 0)", x.put(6, 0), 8 + 13 + 18 + 26 + 31 + 39 + 44);
        check.due("put(6, 1)", x.put(6, 1), 10);
    }

    private static void refusals() {
        check.refused(() -> some("0/3"), "say(32)", x -> x.say(32), OUTSIDE);
        check.refused(() -> some("0/3"), "say(127)", x -> x.say(127), OUTSIDE);
        check.refused(() -> some("01010101010101"), "say(48)", x -> x.say(48), FULL);
        check.refused(() -> some("01010101010101"), "say(127)", x -> x.say(127), OUTSIDE);
        check.refused(() -> some("0/3"), "put(0, 0)", x -> x.put(0, 0), STATE);
        check.refused(() -> some("0/3"), "put(3, 1)", x -> x.put(3, 1), STATE);
        for (int far : FAR) {
            check.refused(() -> some("0/3"), "say(far)", x -> x.say(far), OUTSIDE);
            check.due("row(far)", some("0/").row(far), OUTSIDE);
            check.due("at(far)", some("0/").at(far), UNKNOWN);
            check.due("put(far, 0)", some("0/").put(far, 0), UNKNOWN);
            check.due("put(0, far)", some("0/").put(0, far), OUTSIDE);
        }
        check.due("row(-1)", some("0").row(-1), OUTSIDE);
        check.due("row(5)", some("0").row(5), OUTSIDE);
        check.due("row(5), a fault", some("0/").row(5), OUTSIDE);
        for (int what = 0; what < 5; what++) {
            check.due("row(" + what + "), a fault", some("0/").row(what), FAULT);
        }
        check.due("at(-1)", some("0").at(-1), UNKNOWN);
        check.due("at(5), a fault", some("0/").at(5), UNKNOWN);
        check.due("at(0), a fault", some("0/").at(0), FAULT);
        check.due("at(1), a fault", some("0/").at(1), FAULT);
        check.due("put(5, 2), a fault", some("0/").put(5, 2), UNKNOWN);
        check.due("put(-1, 0)", some("0").put(-1, 0), UNKNOWN);
        check.due("put(0, 2), a fault", some("0/").put(0, 2), OUTSIDE);
        check.due("put(0, -1)", some("0").put(0, -1), OUTSIDE);
        check.due("put(0, 0), a fault", some("0/").put(0, 0), FAULT);
        check.due("put(1, 0), a fault", some("0/").put(1, 0), FAULT);
    }
}
