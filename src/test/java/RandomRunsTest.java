import java.util.Random;

/** Runs of calls by seeds, each answer beside that of the reference; prints the run up to the first wrong answer. */
public final class RandomRunsTest {
    private static final int CALLS = 22;

    private final Check check = new Check("RandomRunsTest");
    private final Random random;
    private final HeatBatches x = new HeatBatches();
    private final Reference r = new Reference();
    private final StringBuilder told = new StringBuilder();
    private final int mostJobs;
    private final boolean oneFamily;
    private final boolean slow;

    private RandomRunsTest(long seed) {
        random = new Random(seed);
        mostJobs = seed % 40 == 0 ? 7 : 3 + random.nextInt(4);
        oneFamily = random.nextInt(6) == 0;
        slow = random.nextInt(5) == 0;
    }

    public static void main(String[] args) {
        int runs = args.length > 0 ? Integer.parseInt(args[0]) : 600;
        long from = args.length > 1 ? Long.parseLong(args[1]) : 1;
        long answers = 0;
        for (long seed = from; seed < from + runs; seed++) {
            RandomRunsTest run = new RandomRunsTest(seed);
            int calls = run.mostJobs == 7 ? 120 : 200;
            for (int call = 0; call < calls && run.check.wrong() == 0; call++) {
                run.call(call < 12 ? run.early() : run.random.nextInt(CALLS));
                answers++;
            }
            if (run.check.wrong() != 0) {
                System.out.println("seed " + seed + ":\n" + run.told);
                run.check.finish();
            }
        }
        System.out.println("RandomRunsTest: " + answers + " answers as those of the reference");
    }

    private int early() {
        int[] first = {0, 1, 2, 2, 2, 2};
        return first[random.nextInt(first.length)];
    }

    /** Mostly within the bounds, now and then just beyond them or far away. */
    private int near(int low, int high) {
        int kind = random.nextInt(40);
        if (kind == 0) return low - 1;
        if (kind == 1) return high + 1;
        if (kind == 2) return random.nextInt();
        if (kind == 3) return random.nextBoolean() ? Integer.MIN_VALUE : Integer.MAX_VALUE;
        if (kind < 8) return random.nextBoolean() ? low : high;
        return low + random.nextInt(high - low + 1);
    }

    private int someJob() {
        return near(0, Math.max(0, r.count(0) - 1));
    }

    /** Families far apart and a slow furnace, so that times grow as long as they can. */
    private int someHeat() {
        return slow ? near(0, 1) * 9 : near(0, 9);
    }

    private int someCook() {
        return slow ? near(18, 20) : near(1, 20);
    }

    private int somePace() {
        return slow ? near(2, 3) : near(0, 3);
    }

    private int someFamily() {
        return oneFamily ? near(1, 1) : near(0, 2);
    }

    private int someDue() {
        return random.nextInt(3) == 0 ? near(0, 99) : near(0, 40);
    }

    private int someSign() {
        int kind = random.nextInt(30);
        if (kind == 0) return near(33, 126);
        if (kind < 10) return '/';
        return near('0', '0' + Math.max(0, r.count(0) - 1));
    }

    private void compare(String call, int got, int want) {
        told.append("  ").append(call).append(" = ").append(want).append('\n');
        check.due(call, got, want);
    }

    private void call(int which) {
        if (which < 6) {
            shopCall(which);
        } else if (which < 12) {
            planCall(which);
        } else {
            padOrImageCall(which);
        }
    }

    private void shopCall(int which) {
        int a;
        int b;
        int c;
        switch (which) {
            case 0:
                a = someFamily(); b = near(0, 1); c = b == 0 ? someHeat() : someCook();
                compare("family(" + a + ", " + b + ", " + c + ")", x.family(a, b, c), r.family(a, b, c));
                break;
            case 1:
                a = near(0, 2); b = a == 0 ? near(9, 20) : somePace();
                compare("set(" + a + ", " + b + ")", x.set(a, b), r.set(a, b));
                break;
            case 2:
                if (r.count(0) >= mostJobs && mostJobs < 7) break;
                a = someFamily(); b = random.nextBoolean() ? near(1, 9) : near(1, 4); c = someDue();
                compare("job(" + a + ", " + b + ", " + c + ")", x.job(a, b, c), r.job(a, b, c));
                break;
            case 3:
                if (random.nextInt(3) != 0) break;
                a = someJob();
                compare("drop(" + a + ")", x.drop(a), r.drop(a));
                break;
            case 4:
                a = someJob(); b = someDue();
                compare("due(" + a + ", " + b + ")", x.due(a, b), r.due(a, b));
                break;
            default:
                a = someJob(); b = near(0, 3);
                compare("of(" + a + ", " + b + ")", x.of(a, b), r.of(a, b));
                break;
        }
    }

    private void planCall(int which) {
        int a;
        int b;
        switch (which) {
            case 6:
                a = near(0, 3);
                compare("best(" + a + ")", x.best(a), r.best(a));
                break;
            case 7:
                a = near(0, 3); b = near(-1, 6);
                compare("plan(" + a + ", " + b + ")", x.plan(a, b), r.plan(a, b));
                break;
            case 8:
                a = someJob(); b = near(0, 3);
                compare("end(" + a + ", " + b + ")", x.end(a, b), r.end(a, b));
                break;
            case 9:
                if (r.count(0) == 7 && random.nextInt(4) != 0) break;
                a = someJob(); b = random.nextInt(3) == 0 ? near(0, 3) : near(0, 1);
                compare("slack(" + a + ", " + b + ")", x.slack(a, b), r.slack(a, b));
                break;
            case 10:
                a = near(-1, 6);
                compare("rule(" + a + ")", x.rule(a), r.rule(a));
                break;
            default:
                a = near(0, 3);
                compare("ruled(" + a + ")", x.ruled(a), r.ruled(a));
                break;
        }
    }

    /** A PLAN that holds, but for a sign at times: signs by chance alone hardly ever tell one. */
    private void sayPlan() {
        compare("wipe()", x.wipe(), r.wipe());
        int batches = 0;
        for (int job = r.count(0) - 1; job >= 0; job--) {
            if (random.nextInt(3) == 0) continue;
            int turned = random.nextInt(8) == 0 ? someJob() : job;
            sayOne('0' + turned);
            if (r.fault() != NONE_THERE && random.nextInt(10) != 0) {
                unsayOne();
                if (batches > 0) sayOne('/');
                sayOne('0' + turned);
            }
            batches++;
            if (random.nextInt(3) == 0 && job > 0) sayOne('/');
        }
        compare("fault()", x.fault(), r.fault());
    }

    private static final int NONE_THERE = Reference.NONE;
    private String said = "";

    private void sayOne(int sign) {
        int had = r.count(5);
        compare("say(" + sign + ")", x.say(sign), r.say(sign));
        if (had == 0) said = "";
        if (r.count(5) > had) said += (char) sign;
    }

    private void unsayOne() {
        String again = said.isEmpty() ? "" : said.substring(0, said.length() - 1);
        compare("wipe()", x.wipe(), r.wipe());
        said = "";
        for (char sign : again.toCharArray()) sayOne(sign);
    }

    private void padOrImageCall(int which) {
        int a;
        int b;
        switch (which) {
            case 12:
                if (random.nextInt(3) == 0) {
                    sayOne(someSign());
                } else {
                    sayPlan();
                }
                break;
            case 13:
                if (random.nextInt(6) != 0) break;
                compare("wipe()", x.wipe(), r.wipe());
                break;
            case 14:
                compare("fault()", x.fault(), r.fault());
                break;
            case 15: case 16:
                a = near(0, 4);
                compare("row(" + a + ")", x.row(a), r.row(a));
                break;
            case 17:
                a = someJob();
                compare("at(" + a + ")", x.at(a), r.at(a));
                break;
            case 18: case 19:
                a = someJob(); b = near(0, 1);
                compare("put(" + a + ", " + b + ")", x.put(a, b), r.put(a, b));
                break;
            case 20:
                a = near(0, 1);
                if (random.nextBoolean()) {
                    compare("image(" + a + ")", x.image(a), r.image(a));
                } else {
                    compare("restore(" + a + ")", x.restore(a), r.restore(a));
                }
                break;
            default:
                a = random.nextInt(4) == 0 ? near(10, 22) : near(0, 7);
                compare("count(" + a + ")", x.count(a), r.count(a));
                break;
        }
    }
}
