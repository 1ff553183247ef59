import java.util.ArrayList;
import java.util.List;

/** The document once more, by going through every PLAN there is: slow, and in another way than the class. */
final class Reference {
    static final int UNKNOWN = -1, OUTSIDE = -2, STATE = -3, FULL = -4, NONE = -6, FAULT = -7;

    record Job(int family, int volume, int due) { }

    record World(int[] heat, int[] cook, int room, int up, int down, List<Job> jobs) {
        World copy() {
            return new World(heat.clone(), cook.clone(), room, up, down, new ArrayList<>(jobs));
        }
    }

    private World now = new World(new int[] {3, 6, 9}, new int[] {5, 5, 5}, 10, 1, 1, new ArrayList<>());
    private final World[] kept = new World[2];
    private String pad = "";

    private boolean noJob(int job) {
        return job < 0 || job >= now.jobs().size();
    }

    private static boolean out(int v, int low, int high) {
        return v < low || v > high;
    }

    int family(int family, int what, int v) {
        if (out(family, 0, 2)) return UNKNOWN;
        if (out(what, 0, 1)) return OUTSIDE;
        if (what == 0 ? out(v, 0, 9) : out(v, 1, 20)) return OUTSIDE;
        int[] row = what == 0 ? now.heat() : now.cook();
        int was = row[family];
        row[family] = v;
        return was;
    }

    int set(int what, int v) {
        if (out(what, 0, 2)) return OUTSIDE;
        if (what == 0 ? out(v, 9, 20) : out(v, 0, 3)) return OUTSIDE;
        World old = now;
        now = new World(old.heat(), old.cook(), what == 0 ? v : old.room(), what == 1 ? v : old.up(),
                what == 2 ? v : old.down(), old.jobs());
        return what == 0 ? old.room() : what == 1 ? old.up() : old.down();
    }

    int job(int family, int volume, int due) {
        if (out(family, 0, 2)) return UNKNOWN;
        if (out(volume, 1, 9) || out(due, 0, 99)) return OUTSIDE;
        if (now.jobs().size() == 7) return FULL;
        now.jobs().add(new Job(family, volume, due));
        return now.jobs().size() - 1;
    }

    int drop(int job) {
        if (noJob(job)) return UNKNOWN;
        now.jobs().remove(job);
        return now.jobs().size();
    }

    int due(int job, int due) {
        if (noJob(job)) return UNKNOWN;
        if (out(due, 0, 99)) return OUTSIDE;
        Job old = now.jobs().get(job);
        now.jobs().set(job, new Job(old.family(), old.volume(), due));
        return old.due();
    }

    private int tight(int job) {
        Job j = now.jobs().get(job);
        return (int) Math.floor((double) (j.due() - now.cook()[j.family()]) / j.volume());
    }

    int of(int job, int what) {
        if (noJob(job)) return UNKNOWN;
        Job j = now.jobs().get(job);
        return switch (what) {
            case 0 -> j.family();
            case 1 -> j.volume();
            case 2 -> j.due();
            case 3 -> tight(job) + 100;
            default -> OUTSIDE;
        };
    }

    // ---- plans: lists of sets

    private boolean isBatch(int set) {
        int volume = 0;
        int family = -1;
        for (int j = 0; j < now.jobs().size(); j++) {
            if ((set & 1 << j) != 0) {
                Job job = now.jobs().get(j);
                if (family >= 0 && family != job.family()) return false;
                family = job.family();
                volume += job.volume();
            }
        }
        return set != 0 && volume <= now.room();
    }

    private int[] ends(List<Integer> plan) {
        int[] ends = new int[plan.size()];
        int time = 0;
        int furnace = 0;
        for (int b = 0; b < ends.length; b++) {
            int family = now.jobs().get(Integer.numberOfTrailingZeros(plan.get(b))).family();
            int heat = now.heat()[family];
            if (heat > furnace) time += now.up() * (heat - furnace);
            if (heat < furnace) time += now.down() * (furnace - heat);
            time += now.cook()[family];
            furnace = heat;
            ends[b] = time;
        }
        return ends;
    }

    private int[] measures(List<Integer> plan) {
        int[] ends = ends(plan);
        int worst = 0;
        int sum = 0;
        for (int b = 0; b < ends.length; b++) {
            for (int j = 0; j < now.jobs().size(); j++) {
                if ((plan.get(b) & 1 << j) != 0) {
                    int late = Math.max(0, ends[b] - now.jobs().get(j).due());
                    worst = Math.max(worst, late);
                    sum += late;
                }
            }
        }
        return new int[] {worst, sum, ends.length == 0 ? 0 : ends[ends.length - 1], ends.length};
    }

    private void gather(int left, List<Integer> ahead, List<List<Integer>> all) {
        if (left == 0) {
            all.add(new ArrayList<>(ahead));
            return;
        }
        for (int set = 1; set <= left; set++) {
            if ((set & left) == set && isBatch(set)) {
                ahead.add(set);
                gather(left - set, ahead, all);
                ahead.remove(ahead.size() - 1);
            }
        }
    }

    private List<List<Integer>> wholePlans() {
        List<List<Integer>> all = new ArrayList<>();
        gather((1 << now.jobs().size()) - 1, new ArrayList<>(), all);
        return all;
    }

    private static boolean isAhead(List<Integer> one, List<Integer> other) {
        for (int b = 0; b < Math.min(one.size(), other.size()); b++) {
            if (!one.get(b).equals(other.get(b))) return one.get(b) < other.get(b);
        }
        return false;
    }

    private List<Integer> thePlan(int measure) {
        List<Integer> found = null;
        int least = 0;
        for (List<Integer> plan : wholePlans()) {
            int value = measures(plan)[measure];
            if (found == null || value < least || value == least && isAhead(plan, found)) {
                found = plan;
                least = value;
            }
        }
        return found;
    }

    int best(int measure) {
        if (out(measure, 0, 3)) return OUTSIDE;
        return measures(thePlan(measure))[measure];
    }

    int plan(int measure, int b) {
        if (out(measure, 0, 3) || b < -1) return OUTSIDE;
        List<Integer> plan = thePlan(measure);
        return b == -1 ? plan.size() : b < plan.size() ? plan.get(b) : NONE;
    }

    private int endIn(List<Integer> plan, int job) {
        for (int b = 0; b < plan.size(); b++) {
            if ((plan.get(b) & 1 << job) != 0) return ends(plan)[b];
        }
        return NONE;
    }

    int end(int job, int measure) {
        if (noJob(job)) return UNKNOWN;
        if (out(measure, 0, 3)) return OUTSIDE;
        return endIn(thePlan(measure), job);
    }

    int slack(int job, int measure) {
        if (noJob(job)) return UNKNOWN;
        if (out(measure, 0, 3)) return OUTSIDE;
        List<List<Integer>> plans = wholePlans();
        int was = now.jobs().get(job).due();
        int best = least(plans, measure);
        int slack = 0;
        // each DUE is tried, not only until one fails: so it is seen, too, whether those that do lie side by side
        for (int less = 1; less <= was; less++) {
            due(job, was - less);
            if (least(plans, measure) == best) slack = less;
        }
        due(job, was);
        return slack;
    }

    private int least(List<List<Integer>> plans, int measure) {
        int least = Integer.MAX_VALUE;
        for (List<Integer> plan : plans) {
            least = Math.min(least, measures(plan)[measure]);
        }
        return least;
    }

    // ---- the rule

    private List<Integer> rulePlan() {
        List<Integer> left = new ArrayList<>();
        for (int j = 0; j < now.jobs().size(); j++) left.add(j);
        left.sort((a, b) -> tight(a) != tight(b) ? Integer.compare(tight(a), tight(b)) : Integer.compare(a, b));
        List<Integer> plan = new ArrayList<>();
        while (!left.isEmpty()) {
            int set = 0;
            for (int j : new ArrayList<>(left)) {
                if (set == 0 || isBatch(set | 1 << j)) {
                    set |= 1 << j;
                    left.remove((Integer) j);
                }
            }
            plan.add(set);
        }
        return plan;
    }

    int rule(int b) {
        if (b < -1) return OUTSIDE;
        List<Integer> plan = rulePlan();
        return b == -1 ? plan.size() : b < plan.size() ? plan.get(b) : NONE;
    }

    int ruled(int measure) {
        return out(measure, 0, 3) ? OUTSIDE : measures(rulePlan())[measure];
    }

    // ---- the pad

    int say(int sign) {
        if (out(sign, 33, 126)) return OUTSIDE;
        if (pad.length() == 14) return FULL;
        pad += (char) sign;
        return pad.length();
    }

    int wipe() {
        int had = pad.length();
        pad = "";
        return had;
    }

    private boolean mayBegin(String signs) {
        if (signs.startsWith("/") || signs.contains("//")) return false;
        int told = 0;
        for (String part : signs.split("/", -1)) {
            int set = 0;
            for (char c : part.toCharArray()) {
                int job = "0123456".indexOf(c);
                if (job < 0 || noJob(job) || (told & 1 << job) != 0) return false;
                told |= 1 << job;
                set |= 1 << job;
                if (!isBatch(set)) return false;
            }
        }
        return true;
    }

    int fault() {
        for (int n = 1; n <= pad.length(); n++) {
            if (!mayBegin(pad.substring(0, n))) return n - 1;
        }
        return pad.endsWith("/") ? pad.length() : NONE;
    }

    private List<Integer> padPlan() {
        List<Integer> plan = new ArrayList<>();
        if (pad.isEmpty()) return plan;
        for (String part : pad.split("/")) {
            int set = 0;
            for (char c : part.toCharArray()) set |= 1 << c - '0';
            plan.add(set);
        }
        return plan;
    }

    private int padJobs() {
        int set = 0;
        for (int batch : padPlan()) set |= batch;
        return set;
    }

    int row(int what) {
        if (out(what, 0, 4)) return OUTSIDE;
        if (fault() != NONE) return FAULT;
        return what == 4 ? padJobs() : measures(padPlan())[what];
    }

    int at(int job) {
        if (noJob(job)) return UNKNOWN;
        if (fault() != NONE) return FAULT;
        return endIn(padPlan(), job);
    }

    int put(int job, int what) {
        if (noJob(job)) return UNKNOWN;
        if (out(what, 0, 1)) return OUTSIDE;
        if (fault() != NONE) return FAULT;
        if ((padJobs() & 1 << job) != 0) return STATE;
        int batches = padPlan().size();
        int sum = -1;
        int found = -1;
        for (int place = 2 * batches; place >= 0; place--) {
            List<Integer> plan = padPlan();
            if (place % 2 == 0) {
                plan.add(place / 2, 1 << job);
            } else {
                plan.set(place / 2, plan.get(place / 2) | 1 << job);
                if (!isBatch(plan.get(place / 2))) continue;
            }
            int value = measures(plan)[1];
            if (sum < 0 || value <= sum) {
                sum = value;
                found = place;
            }
        }
        return what == 0 ? sum : found;
    }

    // ---- images

    int image(int k) {
        if (out(k, 0, 1)) return OUTSIDE;
        kept[k] = now.copy();
        return 1;
    }

    int restore(int k) {
        if (out(k, 0, 1)) return OUTSIDE;
        if (kept[k] == null) return STATE;
        now = kept[k].copy();
        return 1;
    }

    int count(int what) {
        return switch (what) {
            case 0 -> now.jobs().size();
            case 1 -> now.jobs().stream().mapToInt(Job::volume).sum();
            case 2 -> now.room();
            case 3 -> now.up();
            case 4 -> now.down();
            case 5 -> pad.length();
            case 6 -> (int) now.jobs().stream().map(Job::family).distinct().count();
            case 7 -> (kept[0] != null ? 1 : 0) + (kept[1] != null ? 2 : 0);
            case 10, 11, 12 -> now.heat()[what - 10];
            case 20, 21, 22 -> now.cook()[what - 20];
            default -> OUTSIDE;
        };
    }
}
