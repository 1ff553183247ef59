import java.util.Arrays;

/** A furnace loaded in batches: its jobs, the best plans for them, a rule of thumb, and a pad for a plan told by hand. */
public final class HeatBatches {
    public static final int UNKNOWN = -1, OUTSIDE = -2, STATE = -3, FULL = -4, NONE = -6, FAULT = -7;

    private static final int FAMILIES = 3;
    private static final int MOST_JOBS = 7;
    private static final int MOST_SIGNS = 14;
    private static final int IMAGES = 2;
    private static final int LAST_DUE = 99;

    private static final int WORST = 0;
    private static final int SUM = 1;
    private static final int TIME = 2;
    private static final int BATCHES = 3;
    private static final int MEASURES = 4;
    // no measure of a PLAN comes to so much, and no TIGHT
    private static final int ABOVE_ALL = 1000000;

    private final Shop shop = new Shop();
    private final Shop trial = new Shop();
    private final Shop[] images = new Shop[IMAGES];
    private int imagesKept = 0;
    private final Pad pad = new Pad();
    private final Plan padPlan = new Plan();
    private final Plan putPlan = new Plan();
    private final Plan rulePlan = new Plan();
    private final Plan[] bestPlans = new Plan[MEASURES];
    private final int[] bestValues = new int[MEASURES];
    private final boolean[] bestKnown = new boolean[MEASURES];
    private final Search search = new Search();

    public HeatBatches() {
        for (int k = 0; k < IMAGES; k++) {
            images[k] = new Shop();
        }
        for (int measure = 0; measure < MEASURES; measure++) {
            bestPlans[measure] = new Plan();
        }
    }

    // ---- 1 families, jobs

    public int family(int family, int what, int v) {
        if (!isFamily(family)) {
            return UNKNOWN;
        }
        if (what == 0 && isWithin(v, 0, 9)) {
            int was = shop.heat[family];
            shop.heat[family] = v;
            forgetBest();
            return was;
        }
        if (what == 1 && isWithin(v, 1, 20)) {
            int was = shop.cook[family];
            shop.cook[family] = v;
            forgetBest();
            return was;
        }
        return OUTSIDE;
    }

    public int set(int what, int v) {
        int was = OUTSIDE;
        if (what == 0 && isWithin(v, 9, 20)) {
            was = shop.room;
            shop.room = v;
        } else if (what == 1 && isWithin(v, 0, 3)) {
            was = shop.up;
            shop.up = v;
        } else if (what == 2 && isWithin(v, 0, 3)) {
            was = shop.down;
            shop.down = v;
        }
        if (was != OUTSIDE) {
            forgetBest();
        }
        return was;
    }

    public int job(int family, int volume, int due) {
        if (!isFamily(family)) {
            return UNKNOWN;
        }
        if (!isWithin(volume, 1, 9) || !isWithin(due, 0, LAST_DUE)) {
            return OUTSIDE;
        }
        if (shop.jobs >= MOST_JOBS) {
            return FULL;
        }
        forgetBest();
        return shop.take(family, volume, due);
    }

    public int drop(int job) {
        if (!isJob(job)) {
            return UNKNOWN;
        }
        forgetBest();
        shop.remove(job);
        return shop.jobs;
    }

    public int due(int job, int due) {
        if (!isJob(job)) {
            return UNKNOWN;
        }
        if (!isWithin(due, 0, LAST_DUE)) {
            return OUTSIDE;
        }
        int was = shop.dueOf[job];
        shop.dueOf[job] = due;
        forgetBest();
        return was;
    }

    public int of(int job, int what) {
        if (!isJob(job)) {
            return UNKNOWN;
        }
        switch (what) {
            case 0: return shop.familyOf[job];
            case 1: return shop.volumeOf[job];
            case 2: return shop.dueOf[job];
            case 3: return shop.tight(job) + 100;
            default: return OUTSIDE;
        }
    }

    // ---- 2 best plans

    public int best(int measure) {
        if (!isMeasure(measure)) {
            return OUTSIDE;
        }
        findBest(measure);
        return bestValues[measure];
    }

    public int plan(int measure, int b) {
        if (!isMeasure(measure) || b < -1) {
            return OUTSIDE;
        }
        findBest(measure);
        return bestPlans[measure].batchOrHowMany(b);
    }

    public int end(int job, int measure) {
        if (!isJob(job)) {
            return UNKNOWN;
        }
        if (!isMeasure(measure)) {
            return OUTSIDE;
        }
        findBest(measure);
        return bestPlans[measure].endOf(job);
    }

    public int slack(int job, int measure) {
        if (!isJob(job)) {
            return UNKNOWN;
        }
        if (!isMeasure(measure)) {
            return OUTSIDE;
        }
        findBest(measure);
        return shop.dueOf[job] - earliestDue(job, measure);
    }

    // ---- 3 the rule

    public int rule(int b) {
        if (b < -1) {
            return OUTSIDE;
        }
        layRule();
        return rulePlan.batchOrHowMany(b);
    }

    public int ruled(int measure) {
        if (!isMeasure(measure)) {
            return OUTSIDE;
        }
        layRule();
        return rulePlan.measured(shop, measure);
    }

    // ---- 4 the pad

    public int say(int sign) {
        if (!isWithin(sign, 33, 126)) {
            return OUTSIDE;
        }
        if (pad.length >= MOST_SIGNS) {
            return FULL;
        }
        pad.write(sign);
        return pad.length;
    }

    public int wipe() {
        int had = pad.length;
        pad.length = 0;
        return had;
    }

    public int fault() {
        return pad.read(shop, padPlan);
    }

    public int row(int what) {
        if (!isWithin(what, 0, MEASURES)) {
            return OUTSIDE;
        }
        if (pad.read(shop, padPlan) != NONE) {
            return FAULT;
        }
        return what == MEASURES ? padPlan.members() : padPlan.measured(shop, what);
    }

    public int at(int job) {
        if (!isJob(job)) {
            return UNKNOWN;
        }
        if (pad.read(shop, padPlan) != NONE) {
            return FAULT;
        }
        return padPlan.endOf(job);
    }

    public int put(int job, int what) {
        if (!isJob(job)) {
            return UNKNOWN;
        }
        if (!isWithin(what, 0, 1)) {
            return OUTSIDE;
        }
        if (pad.read(shop, padPlan) != NONE) {
            return FAULT;
        }
        if (contains(padPlan.members(), job)) {
            return STATE;
        }
        return putIn(job, what == 1);
    }

    // ---- 5 images

    public int image(int k) {
        if (!isWithin(k, 0, IMAGES - 1)) {
            return OUTSIDE;
        }
        images[k].become(shop);
        imagesKept |= 1 << k;
        return 1;
    }

    public int restore(int k) {
        if (!isWithin(k, 0, IMAGES - 1)) {
            return OUTSIDE;
        }
        if (!contains(imagesKept, k)) {
            return STATE;
        }
        shop.become(images[k]);
        forgetBest();
        return 1;
    }

    public int count(int what) {
        switch (what) {
            case 0: return shop.jobs;
            case 1: return shop.allVolumes();
            case 2: return shop.room;
            case 3: return shop.up;
            case 4: return shop.down;
            case 5: return pad.length;
            case 6: return shop.familiesUsed();
            case 7: return imagesKept;
            default: break;
        }
        if (isWithin(what, 10, 9 + FAMILIES)) {
            return shop.heat[what - 10];
        }
        if (isWithin(what, 20, 19 + FAMILIES)) {
            return shop.cook[what - 20];
        }
        return OUTSIDE;
    }

    // ---- what the calls share

    private static boolean isWithin(int v, int least, int most) {
        return v >= least && v <= most;
    }

    private static boolean isFamily(int family) {
        return isWithin(family, 0, FAMILIES - 1);
    }

    private static boolean isMeasure(int measure) {
        return isWithin(measure, 0, MEASURES - 1);
    }

    /** Whether the measure asks when a JOB is DUE. */
    private static boolean isOfDues(int measure) {
        return measure == WORST || measure == SUM;
    }

    private boolean isJob(int job) {
        return isWithin(job, 0, shop.jobs - 1);
    }

    private static boolean contains(int members, int member) {
        return (members >> member & 1) == 1;
    }

    private static int joined(int measure, int one, int other) {
        return measure == WORST ? Math.max(one, other) : one + other;
    }

    private void forgetBest() {
        for (int measure = 0; measure < MEASURES; measure++) {
            bestKnown[measure] = false;
        }
    }

    private void findBest(int measure) {
        if (bestKnown[measure]) {
            return;
        }
        bestValues[measure] = search.leastOf(shop, measure);
        search.layFirst(bestValues[measure], bestPlans[measure]);
        bestKnown[measure] = true;
    }

    /**
     * The least DUE of a JOB that leaves BEST as it is. BEST never grows as a DUE gets later, so that the times can be
     * halved; and a DUE later by 1 makes it less by 1 at the most, so that an excess tells how many more can not do.
     */
    private int earliestDue(int job, int measure) {
        if (!isOfDues(measure)) {
            return 0;
        }
        int low = 0;
        int high = shop.dueOf[job];
        trial.become(shop);
        for (int round = 0; round <= LAST_DUE && low < high; round++) {
            int tried = (low + high) / 2;
            trial.dueOf[job] = tried;
            int excess = search.leastOf(trial, measure) - bestValues[measure];
            if (excess <= 0) {
                high = tried;
            } else {
                low = tried + excess;
            }
        }
        return high;
    }

    private void layRule() {
        rulePlan.clear();
        int left = shop.everyJob();
        for (int round = 0; round < MOST_JOBS && left != 0; round++) {
            int batch = ruleBatch(left);
            rulePlan.add(shop, batch);
            left &= ~batch;
        }
    }

    private int ruleBatch(int left) {
        int first = tightest(left);
        int batch = 1 << first;
        int volume = shop.volumeOf[first];
        int others = left & shop.membersOf(shop.familyOf[first]) & ~batch;
        for (int round = 0; round < MOST_JOBS && others != 0; round++) {
            int next = tightest(others);
            others &= ~(1 << next);
            if (volume + shop.volumeOf[next] <= shop.room) {
                volume += shop.volumeOf[next];
                batch |= 1 << next;
            }
        }
        return batch;
    }

    private int tightest(int members) {
        int found = 0;
        int least = ABOVE_ALL;
        for (int job = 0; job < shop.jobs; job++) {
            if (contains(members, job) && shop.tight(job) < least) {
                found = job;
                least = shop.tight(job);
            }
        }
        return found;
    }

    private int putIn(int job, boolean wantsPlace) {
        int least = ABOVE_ALL;
        int found = 0;
        for (int place = 0; place <= 2 * padPlan.batches; place++) {
            if (putPlan.becomeWith(shop, padPlan, job, place)) {
                int sum = putPlan.measured(shop, SUM);
                if (sum < least) {
                    least = sum;
                    found = place;
                }
            }
        }
        return wantsPlace ? found : least;
    }

    /** All that an IMAGE keeps. */
    private static final class Shop {
        // a FAMILY more, that no JOB is of: the furnace ahead of its first BATCH is as it would leave it
        static final int COLD = FAMILIES;

        final int[] heat = {3, 6, 9, 0};
        final int[] cook = {5, 5, 5, 0};
        int room = 10;
        int up = 1;
        int down = 1;
        int jobs = 0;
        final int[] familyOf = new int[MOST_JOBS];
        final int[] volumeOf = new int[MOST_JOBS];
        final int[] dueOf = new int[MOST_JOBS];

        void become(Shop other) {
            System.arraycopy(other.heat, 0, heat, 0, FAMILIES);
            System.arraycopy(other.cook, 0, cook, 0, FAMILIES);
            room = other.room;
            up = other.up;
            down = other.down;
            jobs = other.jobs;
            System.arraycopy(other.familyOf, 0, familyOf, 0, MOST_JOBS);
            System.arraycopy(other.volumeOf, 0, volumeOf, 0, MOST_JOBS);
            System.arraycopy(other.dueOf, 0, dueOf, 0, MOST_JOBS);
        }

        int take(int family, int volume, int due) {
            int number = jobs;
            familyOf[number] = family;
            volumeOf[number] = volume;
            dueOf[number] = due;
            jobs++;
            return number;
        }

        void remove(int job) {
            for (int to = job; to < jobs - 1; to++) {
                familyOf[to] = familyOf[to + 1];
                volumeOf[to] = volumeOf[to + 1];
                dueOf[to] = dueOf[to + 1];
            }
            jobs--;
        }

        int tight(int job) {
            int volume = Math.max(1, volumeOf[job]);
            return Math.floorDiv(dueOf[job] - cook[familyOf[job]], volume);
        }

        int everyJob() {
            return (1 << jobs) - 1;
        }

        int membersOf(int family) {
            int members = 0;
            for (int job = 0; job < jobs; job++) {
                if (familyOf[job] == family) {
                    members |= 1 << job;
                }
            }
            return members;
        }

        int familiesUsed() {
            int used = 0;
            for (int family = 0; family < FAMILIES; family++) {
                if (membersOf(family) != 0) {
                    used++;
                }
            }
            return used;
        }

        int allVolumes() {
            return volumeOfSet(everyJob());
        }

        int volumeOfSet(int members) {
            int volume = 0;
            for (int job = 0; job < jobs; job++) {
                if (contains(members, job)) {
                    volume += volumeOf[job];
                }
            }
            return volume;
        }

        /** Whether a JOB may go into a BATCH that has JOBS already. */
        boolean fits(int job, int batch) {
            return familyOf[job] == familyOfSet(batch) && volumeOfSet(batch) + volumeOf[job] <= room;
        }

        int familyOfSet(int batch) {
            for (int job = 0; job < jobs; job++) {
                if (contains(batch, job)) {
                    return familyOf[job];
                }
            }
            return COLD;
        }

        int takes(int furnace, int family) {
            int change = heat[family] - heat[furnace];
            return (change > 0 ? up * change : -down * change) + cook[family];
        }

        /** LATE of the JOBS of one BATCH: the greatest or, by SUM, all. */
        int late(int measure, int batch, int end) {
            int all = 0;
            for (int job = 0; job < jobs; job++) {
                int over = end - dueOf[job];
                if (over > 0 && contains(batch, job)) {
                    all = measure == WORST ? Math.max(all, over) : all + over;
                }
            }
            return all;
        }
    }

    /** BATCHES one behind the other, as sets of JOBS, with their ENDS. */
    private static final class Plan {
        int batches = 0;
        final int[] batch = new int[MOST_JOBS];
        final int[] ends = new int[MOST_JOBS];

        void clear() {
            batches = 0;
        }

        void add(Shop shop, int members) {
            if (batches >= MOST_JOBS || members == 0) {
                return;
            }
            int furnace = batches == 0 ? Shop.COLD : shop.familyOfSet(batch[batches - 1]);
            batch[batches] = members;
            ends[batches] = time() + shop.takes(furnace, shop.familyOfSet(members));
            batches++;
        }

        int time() {
            return batches == 0 ? 0 : ends[batches - 1];
        }

        int members() {
            int all = 0;
            for (int b = 0; b < batches; b++) {
                all |= batch[b];
            }
            return all;
        }

        int batchOrHowMany(int b) {
            if (b == -1) {
                return batches;
            }
            return isWithin(b, 0, batches - 1) ? batch[b] : NONE;
        }

        int endOf(int job) {
            for (int b = 0; b < batches; b++) {
                if (contains(batch[b], job)) {
                    return ends[b];
                }
            }
            return NONE;
        }

        int measured(Shop shop, int measure) {
            if (measure == TIME) {
                return time();
            }
            if (measure == BATCHES) {
                return batches;
            }
            int all = 0;
            for (int b = 0; b < batches; b++) {
                all = joined(measure, all, shop.late(measure, batch[b], ends[b]));
            }
            return all;
        }

        /** Whether the JOB can be put in at that place; only then this is the other PLAN with it. */
        boolean becomeWith(Shop shop, Plan other, int job, int place) {
            int b = place / 2;
            boolean joins = place % 2 == 1;
            if (joins && !(b < other.batches && shop.fits(job, other.batch[b]))) {
                return false;
            }
            clear();
            for (int from = 0; from < other.batches; from++) {
                if (from == b && !joins) {
                    add(shop, 1 << job);
                }
                add(shop, from == b && joins ? other.batch[from] | 1 << job : other.batch[from]);
            }
            if (b == other.batches) {
                add(shop, 1 << job);
            }
            return true;
        }
    }

    /** The signs of THE PAD. */
    private static final class Pad {
        int length = 0;
        final int[] signs = new int[MOST_SIGNS];

        void write(int sign) {
            signs[length] = sign;
            length++;
        }

        /** THE FAULT or NONE; only if it is NONE the PLAN is that on THE PAD. */
        int read(Shop shop, Plan into) {
            into.clear();
            int told = 0;
            int batch = 0;
            for (int place = 0; place < length; place++) {
                if (signs[place] == '/') {
                    if (batch == 0) {
                        return place;
                    }
                    into.add(shop, batch);
                    batch = 0;
                } else {
                    int job = signs[place] - '0';
                    if (!mayStand(shop, job, told, batch)) {
                        return place;
                    }
                    told |= 1 << job;
                    batch |= 1 << job;
                }
            }
            if (batch != 0) {
                into.add(shop, batch);
                return NONE;
            }
            return length == 0 ? NONE : length;
        }

        private static boolean mayStand(Shop shop, int job, int told, int batch) {
            if (!isWithin(job, 0, shop.jobs - 1) || contains(told, job)) {
                return false;
            }
            return batch == 0 || shop.fits(job, batch);
        }
    }

    /** Looks for the least of a measure over all WHOLE PLANS, and for the first PLAN that has it. */
    private static final class Search {
        private static final int SETS = 1 << MOST_JOBS;
        private static final int NO_BATCH = -1;
        private static final int SLOT_BITS = 11;
        private static final int SLOTS = 1 << SLOT_BITS;
        private static final int MOST_STEPS = 32;
        private static final int TIME_BITS = 9;
        private static final int STATE_BITS = TIME_BITS + 2 + MOST_JOBS;
        private static final int LAST_AGE = (1 << 31 - STATE_BITS) - 1;
        // an odd number of many bits: it strews keys that are near each other
        private static final int STREW = 0x9E3779B1;

        private Shop shop = null;
        private int measure = WORST;
        private final int[] familyOfBatch = new int[SETS];
        private final int[] volumeOfBatch = new int[SETS];
        // what was found for a state is kept where there is room for it; the age tells old finds from new ones
        private int age = 0;
        private final int[] keys = new int[SLOTS];
        private final int[] finds = new int[SLOTS];

        int leastOf(Shop forShop, int forMeasure) {
            shop = forShop;
            measure = forMeasure;
            listBatches();
            forgetFinds();
            return leastLeft(shop.everyJob(), Shop.COLD, 0, 0);
        }

        /** The first WHOLE PLAN with that least; leastOf was called just before. */
        void layFirst(int least, Plan into) {
            into.clear();
            if (shop == null) {
                return;
            }
            int left = shop.everyJob();
            int furnace = Shop.COLD;
            int spent = 0;
            for (int round = 0; round < MOST_JOBS && left != 0; round++) {
                int begin = into.time();
                int batch = firstBatch(left, furnace, begin, spent, least);
                into.add(shop, batch);
                spent = joined(measure, spent, part(batch, begin, into.time()));
                furnace = familyOfBatch[batch];
                left &= ~batch;
            }
        }

        private int firstBatch(int left, int furnace, int begin, int spent, int least) {
            for (int batch = 1; batch <= left; batch++) {
                int family = familyOfBatch[batch];
                if ((batch & ~left) == 0 && family != NO_BATCH) {
                    int end = begin + shop.takes(furnace, family);
                    int all = joined(measure, spent, part(batch, begin, end));
                    if (joined(measure, all, leastLeft(left & ~batch, family, end, 0)) <= least) {
                        return batch;
                    }
                }
            }
            return left & -left;
        }

        private void listBatches() {
            for (int job = 0; job < shop.jobs; job++) {
                for (int others = 0; others < 1 << job; others++) {
                    listBatch(others, job);
                }
            }
        }

        /** The others are of lesser numbers, and listed already. */
        private void listBatch(int others, int job) {
            int members = others | 1 << job;
            int family = shop.familyOf[job];
            int volume = shop.volumeOf[job];
            if (others != 0) {
                volume += volumeOfBatch[others];
                if (familyOfBatch[others] != family || volume > shop.room) {
                    family = NO_BATCH;
                }
            }
            familyOfBatch[members] = family;
            volumeOfBatch[members] = volume;
        }

        private void forgetFinds() {
            age++;
            if (age > LAST_AGE) {
                Arrays.fill(keys, 0);
                age = 1;
            }
        }

        /** The least that the JOBS left can come to, with the furnace as a FAMILY left it at that time. */
        private int leastLeft(int left, int furnace, int time, int depth) {
            if (left == 0 || depth > MOST_JOBS) {
                return 0;
            }
            // a time that is not asked is left out: fewer states are unlike then
            int begin = isOfDues(measure) ? time : 0;
            if (Integer.bitCount(left) == 1) {
                return part(left, begin, begin + shop.takes(furnace, familyOfBatch[left]));
            }
            int key = ((age << MOST_JOBS | left) << 2 | furnace) << TIME_BITS | begin;
            int slot = slotOf(key);
            if (keys[slot] == key) {
                return finds[slot];
            }
            int least = ABOVE_ALL;
            for (int batch = left; batch > 0; batch = batch - 1 & left) {
                int family = familyOfBatch[batch];
                if (family != NO_BATCH) {
                    int end = begin + shop.takes(furnace, family);
                    int own = part(batch, begin, end);
                    if (own < least) {
                        int others = leastLeft(left & ~batch, family, end, depth + 1);
                        least = Math.min(least, joined(measure, own, others));
                    }
                }
            }
            keep(key, least);
            return least;
        }

        /** What one BATCH adds to the measure. */
        private int part(int batch, int begin, int end) {
            switch (measure) {
                case TIME: return end - begin;
                case BATCHES: return 1;
                default: return shop.late(measure, batch, end);
            }
        }

        /** Where the key is, or else where it may go: in place of an old find, or of a new one if there is none near. */
        private int slotOf(int key) {
            int home = key * STREW >>> 32 - SLOT_BITS;
            for (int step = 0; step < MOST_STEPS; step++) {
                int slot = home + step & SLOTS - 1;
                if (keys[slot] == key || keys[slot] >> STATE_BITS != age) {
                    return slot;
                }
            }
            return home;
        }

        private void keep(int key, int least) {
            int slot = slotOf(key);
            keys[slot] = key;
            finds[slot] = least;
        }
    }
}
