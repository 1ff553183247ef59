/** One object, and the calls made on it as text: "put(0, 1)", several with ; between; "pad(01/2)" says each sign. */
final class Run {
    private static final int MOST_CALLS = 512;

    private final HeatBatches x = new HeatBatches();
    private final StringBuilder told = new StringBuilder();
    private int calls = 0;

    static Run of(String... texts) {
        Run run = new Run();
        for (String text : texts) {
            run.go(text);
        }
        return run;
    }

    /** Makes the calls, whatever they answer. */
    Run go(String text) {
        for (String part : text.split(";")) {
            String call = part.trim();
            if (call.startsWith("pad(")) {
                for (char sign : call.substring(4, call.length() - 1).toCharArray()) {
                    ask("say(" + (int) sign + ")");
                }
            } else if (!call.isEmpty()) {
                ask(call);
            }
        }
        return this;
    }

    int ask(String call) {
        calls++;
        if (calls > MOST_CALLS) {
            // a fault of the test: the document frees what such calls answer
            throw new IllegalStateException("more than 512 calls: " + told);
        }
        told.append(call).append("; ");
        int open = call.indexOf('(');
        String inside = call.substring(open + 1, call.length() - 1).trim();
        String[] parts = inside.isEmpty() ? new String[0] : inside.split(",");
        int[] v = new int[parts.length];
        for (int i = 0; i < v.length; i++) {
            v[i] = Integer.parseInt(parts[i].trim());
        }
        return answer(call.substring(0, open) + " " + v.length, v);
    }

    int calls() {
        return calls;
    }

    @Override
    public String toString() {
        return told.toString();
    }

    private int answer(String name, int[] v) {
        return switch (name) {
            case "family 3" -> x.family(v[0], v[1], v[2]);
            case "set 2" -> x.set(v[0], v[1]);
            case "job 3" -> x.job(v[0], v[1], v[2]);
            case "drop 1" -> x.drop(v[0]);
            case "due 2" -> x.due(v[0], v[1]);
            case "of 2" -> x.of(v[0], v[1]);
            case "best 1" -> x.best(v[0]);
            case "plan 2" -> x.plan(v[0], v[1]);
            case "end 2" -> x.end(v[0], v[1]);
            case "slack 2" -> x.slack(v[0], v[1]);
            case "rule 1" -> x.rule(v[0]);
            case "ruled 1" -> x.ruled(v[0]);
            case "say 1" -> x.say(v[0]);
            case "wipe 0" -> x.wipe();
            case "fault 0" -> x.fault();
            case "row 1" -> x.row(v[0]);
            case "at 1" -> x.at(v[0]);
            case "put 2" -> x.put(v[0], v[1]);
            case "image 1" -> x.image(v[0]);
            case "restore 1" -> x.restore(v[0]);
            case "count 1" -> x.count(v[0]);
            default -> throw new IllegalArgumentException("there is no call " + name);
        };
    }

    /** All that the object can be made to show: as it is, with THE PAD and the JOBS changed, and from each IMAGE. */
    String all() {
        StringBuilder shown = new StringBuilder();
        showShop(shown);
        showPad(shown);
        show(shown, "say(48)", "fault()", "wipe()", "say(49)", "say(47)", "say(48)", "drop(2)", "job(2, 3, 44)");
        showShop(shown);
        showPad(shown);
        show(shown, "restore(0)");
        showKept(shown);
        show(shown, "restore(1)");
        showKept(shown);
        return shown.toString();
    }

    private void show(StringBuilder shown, String... asked) {
        for (String call : asked) {
            shown.append(call).append(" = ").append(ask(call)).append('\n');
        }
    }

    private void showKept(StringBuilder shown) {
        for (int what = 0; what <= 22; what++) {
            show(shown, "count(" + what + ")");
        }
        for (int job = 0; job < 7; job++) {
            for (int what = 0; what < 3; what++) {
                show(shown, "of(" + job + ", " + what + ")");
            }
        }
    }

    private void showShop(StringBuilder shown) {
        showKept(shown);
        for (int measure = 0; measure < 4; measure++) {
            show(shown, "best(" + measure + ")", "ruled(" + measure + ")");
            for (int b = -1; b < 7; b++) {
                show(shown, "plan(" + measure + ", " + b + ")");
            }
        }
        for (int b = -1; b < 7; b++) {
            show(shown, "rule(" + b + ")");
        }
        for (int job = 0; job < 7; job++) {
            show(shown, "of(" + job + ", 3)", "end(" + job + ", 1)", "slack(" + job + ", " + job % 2 + ")");
        }
    }

    private void showPad(StringBuilder shown) {
        show(shown, "fault()");
        for (int what = 0; what < 5; what++) {
            show(shown, "row(" + what + ")");
        }
        for (int job = 0; job < 7; job++) {
            show(shown, "at(" + job + ")", "put(" + job + ", 0)", "put(" + job + ", 1)");
        }
    }
}
