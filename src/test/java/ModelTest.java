/** Many runs of at most 512 calls, the same on the program and on the model; each answer must be the same. */
public final class ModelTest {
    private static final int RUNS = 1500;
    private static final int CALLS = 512;

    private final StorageQuotas x = new StorageQuotas();
    private final Model m = new Model();
    private final StringBuilder story = new StringBuilder();
    private long seed;
    private int scale;
    private int calls = 0;

    private ModelTest(long seed) {
        this.seed = seed * 7919 + 17;
        this.scale = next(3);
    }

    public static void main(String[] args) {
        for (int run = 0; run < RUNS; run++) {
            ModelTest test = new ModelTest(run);
            if (!test.runOnce()) {
                System.out.println("run " + run + ":" + test.story);
                break;
            }
        }
        Check.end();
    }

    /** A fixed row of numbers, so that each run of the test is the same. */
    private int next(int bound) {
        seed = seed * 6364136223846793005L + 1442695040888963407L;
        return (int) ((seed >>> 33) % bound);
    }

    private boolean runOnce() {
        boolean same = true;
        while (same && calls < CALLS) {
            int kind = next(100);
            if (kind < 60) {
                same = operate(next(26));
            } else if (kind < 70) {
                same = text();
            } else {
                same = ask(next(26));
            }
        }
        return same;
    }

    private boolean same(String call, Check.Call program, Check.Call model) {
        if (calls == CALLS) {
            return true;
        }
        calls++;
        String got = answerOf(program);
        String due = answerOf(model);
        story.append("\n  ").append(call).append(": ").append(got);
        Check.isSame(call, got, due);
        return got.equals(due);
    }

    private static String answerOf(Check.Call call) {
        try {
            return "" + call.answer();
        } catch (IllegalStateException | IllegalArgumentException | IndexOutOfBoundsException e) {
            return e.getClass().getName();
        }
    }

    private int oneOf(int... numbers) {
        return numbers[next(numbers.length)];
    }

    private int wild(int number, int below, int above) {
        return next(60) == 0 ? oneOf(below, above, Integer.MAX_VALUE, Integer.MIN_VALUE) : number;
    }

    private int user() {
        return wild(scale == 0 ? next(2) : next(6), -1, 6);
    }

    private int group() {
        return wild(scale == 0 ? next(2) : next(3), -1, 3);
    }

    private int account() {
        return wild(scale == 0 ? oneOf(0, 1, 6, 7) : next(9), -1, 9);
    }

    private int resource() {
        return wild(next(2), -1, 2);
    }

    private int directory() {
        return wild(scale == 2 ? next(10) : oneOf(0, 9), -1, 10);
    }

    private int name() {
        return wild(scale == 2 ? oneOf(0, 1, 2, 50, 98, 99) : oneOf(0, 1, 99), -1, 100);
    }

    private int size() {
        return wild(scale == 2 ? oneOf(0, 5000, next(5001)) : next(12), -1, 5001);
    }

    private int limit() {
        return wild(oneOf(0, scale == 2 ? next(30000) : next(40), next(6), 100000), -1, 100001);
    }

    private int days() {
        return wild(oneOf(1, 2, 3, 7, next(10) + 1, next(100) + 1), 0, 101);
    }

    private boolean operate(int kind) {
        int d = directory();
        int n = name();
        int u = user();
        int g = group();
        int s = size();
        int a = account();
        int r = resource();
        switch (kind) {
            case 0: case 1: case 2: case 3: case 4: case 5: case 6:
                return same("create " + u + " " + g + " " + d + " " + n + " " + s,
                        () -> x.create(u, g, d, n, s), () -> m.create(u, g, d, n, s));
            case 7: case 8: case 9: case 10:
                return same("resize " + d + " " + n + " " + s, () -> x.resize(d, n, s), () -> m.resize(d, n, s));
            case 11: case 12:
                return same("delete " + d + " " + n, () -> x.delete(d, n), () -> m.delete(d, n));
            case 13: case 14: case 15:
                return same("move " + d + " " + n + " " + u + " " + g,
                        () -> x.move(d, n, u, g), () -> m.move(d, n, u, g));
            case 16: case 17: case 18:
                return limits(a, r);
            case 19:
                int length = wild(oneOf(1, 2, 3, 7, 60), 0, 61);
                return same("setGrace " + r + " " + length, () -> x.setGrace(r, length), () -> m.setGrace(r, length));
            case 20:
                return same("restartGrace " + a + " " + r, () -> x.restartGrace(a, r), () -> m.restartGrace(a, r));
            case 21:
                boolean exempt = next(3) == 0;
                return same("setExempt " + u + " " + exempt, () -> x.setExempt(u, exempt),
                        () -> m.setExempt(u, exempt));
            case 22: case 23:
                int days = days();
                return same("nextDays " + days, () -> x.nextDays(days), () -> m.nextDays(days));
            case 24:
                return same("undo", () -> x.undo(), () -> m.undo());
            default:
                int slot = wild(next(2), -1, 2);
                return next(2) == 0 ? same("save " + slot, () -> x.save(slot), () -> m.save(slot))
                        : same("restore " + slot, () -> x.restore(slot), () -> m.restore(slot));
        }
    }

    private boolean limits(int a, int r) {
        int one = limit();
        int two = limit();
        boolean ordered = one != 0 && two != 0 && next(10) != 0;
        int soft = ordered ? Math.min(one, two) : one;
        int hard = ordered ? Math.max(one, two) : two;
        return same("setLimits " + a + " " + r + " " + soft + " " + hard,
                () -> x.setLimits(a, r, soft, hard), () -> m.setLimits(a, r, soft, hard));
    }

    private boolean text() {
        StringBuilder b = new StringBuilder();
        int commands = next(3) + 1;
        for (int i = 0; i < commands; i++) {
            b.append(i > 0 ? ";" : "").append(command());
        }
        if (next(4) == 0) {
            b.setCharAt(next(b.length()), "cdrmn0123456789,; x".charAt(next(19)));
        }
        boolean same = next(8) == 0 || same("clearText", () -> x.clearText(), () -> m.clearText());
        for (int i = 0; same && i < b.length(); i++) {
            int c = wild(b.charAt(i), 31, 127);
            same = same("appendText " + c, () -> x.appendText(c), () -> m.appendText(c));
        }
        return same && same("errorPosition", () -> x.errorPosition(), () -> m.errorPosition())
                && same("runText", () -> x.runText(), () -> m.runText());
    }

    private String command() {
        switch (next(5)) {
            case 0:
                return "c" + user() + "," + group() + "," + directory() + "," + name() + "," + size();
            case 1:
                return "r" + directory() + "," + name() + "," + size();
            case 2:
                return "d" + directory() + "," + name();
            case 3:
                return "m" + directory() + "," + name() + "," + user() + "," + group();
            default:
                return "n" + days();
        }
    }

    private boolean ask(int kind) {
        int a = account();
        int r = resource();
        switch (kind) {
            case 0:
                return same("usage " + a + " " + r, () -> x.usage(a, r), () -> m.usage(a, r));
            case 1:
                return same("scannedUsage " + a + " " + r, () -> x.scannedUsage(a, r), () -> m.usage(a, r));
            case 2:
                return same("softLimit " + a + " " + r, () -> x.softLimit(a, r), () -> m.softLimit(a, r));
            case 3:
                return same("hardLimit " + a + " " + r, () -> x.hardLimit(a, r), () -> m.hardLimit(a, r));
            case 4:
                return same("graceStart " + a + " " + r, () -> x.graceStart(a, r), () -> m.graceStart(a, r));
            case 5:
                return same("graceLeft " + a + " " + r, () -> x.graceLeft(a, r), () -> m.graceLeft(a, r));
            case 6:
                return same("available " + a + " " + r, () -> x.available(a, r), () -> m.available(a, r));
            case 7:
                return same("refusals " + a, () -> x.refusals(a), () -> m.refusals(a));
            case 8: case 9:
                return same("fewestDeletions " + a, () -> x.fewestDeletions(a), () -> m.fewestDeletions(a));
            case 10: case 11:
                return same("largestFile " + a, () -> x.largestFile(a), () -> m.largestFile(a));
            case 12:
                return same("graceLength " + r, () -> x.graceLength(r), () -> m.graceLength(r));
            case 13:
                return same("runningGraces", () -> x.runningGraces(), () -> m.runningGraces());
            case 14:
                return same("overGraces", () -> x.overGraces(), () -> m.overGraces());
            case 15:
                return same("eventCount", () -> x.eventCount(), () -> m.eventCount());
            case 16:
                return same("savedStates", () -> x.savedStates(), () -> m.savedStates());
            case 17:
                return same("textLength", () -> x.textLength(), () -> m.textLength());
            case 18:
                return same("day", () -> x.day(), () -> m.day());
            default:
                return kind < 22 ? askEvents() : askPlaces(kind);
        }
    }

    private boolean askEvents() {
        boolean same = true;
        for (int i = 0; same && i < 3; i++) {
            int index = wild(next(13), -1, 12);
            int part = wild(next(4), -1, 4);
            same = same("event " + index + " " + part, () -> x.event(index, part), () -> m.event(index, part));
        }
        return same;
    }

    private boolean askPlaces(int kind) {
        int d = directory();
        int n = name();
        int u = user();
        int g = group();
        int s = size();
        switch (kind) {
            case 22:
                return same("sizeOf " + d + " " + n, () -> x.sizeOf(d, n), () -> m.sizeOf(d, n))
                        && same("ownerOf " + d + " " + n, () -> x.ownerOf(d, n), () -> m.ownerOf(d, n))
                        && same("groupOf " + d + " " + n, () -> x.groupOf(d, n), () -> m.groupOf(d, n));
            case 23:
                return same("directorySize " + d, () -> x.directorySize(d), () -> m.directorySize(d))
                        && same("fileCount", () -> x.fileCount(), () -> m.fileCount())
                        && same("isExempt " + u, () -> x.isExempt(u) ? 1 : 0, () -> m.isExempt(u));
            case 24:
                return same("ifCreated " + u + " " + g + " " + s,
                        () -> x.ifCreated(u, g, s), () -> m.ifCreated(u, g, s));
            default:
                return same("refusedOnDay " + u + " " + g + " " + s,
                        () -> x.refusedOnDay(u, g, s), () -> m.refusedOnDay(u, g, s));
        }
    }
}
