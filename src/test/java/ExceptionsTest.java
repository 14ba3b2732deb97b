/**
 * Term 9: which exception comes first, that an exception comes before a refusal, and when IllegalStateException is
 * due.
 */
public final class ExceptionsTest {
    public static void main(String[] args) {
        create();
        createWhenFull();
        resize();
        delete();
        move();
        setLimits();
        setGrace();
        restartGrace();
        nextDays();
        appendText();
        runText();
        undo();
        restore();
        forecasts();
        event();
        Check.end();
    }

    private static Story withFile() {
        Story x = new Story();
        x.create(1, 1, 5, 50, 1);
        return x;
    }

    /** IllegalStateException "if there is a file with this name in the directory". */
    private static void create() {
        Story x = withFile();
        Check.isRefused("create, it exists", Check.STATE, x, () -> x.create(0, 0, 5, 50, 0));
        Check.isRefused("create, it exists, the size first", Check.ARGUMENT, x, () -> x.create(0, 0, 5, 50, 5001));
        Check.isRefused("create, it exists, the size first", Check.ARGUMENT, x, () -> x.create(0, 0, 5, 50, -1));
        Check.isRefused("create, it exists, the user first", Check.INDEX, x, () -> x.create(6, 0, 5, 50, 5001));
        Check.isRefused("create, it exists, the group first", Check.INDEX, x, () -> x.create(0, 3, 5, 50, 5001));
        Check.isRefused("create, the directory first", Check.INDEX, x, () -> x.create(0, 0, 10, 50, 5001));
        Check.isRefused("create, the name first", Check.INDEX, x, () -> x.create(0, 0, 5, 100, 5001));
        x.setLimits(1, 0, 0, 1);
        Check.isRefused("create, an exception and no refusal", Check.STATE, x, () -> x.create(1, 1, 5, 50, 2));
        Check.is("the name below", x.create(0, 0, 5, 49, 0), 0);
        Check.is("the name above", x.create(0, 0, 5, 51, 0), 0);
        Check.is("the directory below", x.create(0, 0, 4, 50, 0), 0);
        Check.is("the directory above", x.create(0, 0, 6, 50, 0), 0);
        x.delete(5, 50);
        Check.is("no longer there", x.create(0, 0, 5, 50, 0), 0);
    }

    /** IllegalStateException "if 60 files exist". */
    private static void createWhenFull() {
        Story x = new Story();
        for (int i = 0; i < 59; i++) {
            x.create(i % 6, i % 3, i % 10, i, 0);
        }
        Check.is("the file 60", x.create(0, 0, 0, 99, 0), 0);
        Check.isRefused("the file 61", Check.STATE, x, () -> x.create(0, 0, 1, 99, 0));
        Check.isRefused("the file 61, it exists as well", Check.STATE, x, () -> x.create(0, 0, 0, 99, 0));
        Check.isRefused("the file 61, the size first", Check.ARGUMENT, x, () -> x.create(0, 0, 1, 99, 5001));
        Check.isRefused("the file 61, the name first", Check.INDEX, x, () -> x.create(0, 0, 1, 100, 5001));
        x.setLimits(0, 1, 0, 1);
        Check.isRefused("the file 61, no refusal", Check.STATE, x, () -> x.create(0, 0, 1, 99, 0));
        x.setExempt(0, true);
        Check.isRefused("the file 61 of an exempt user", Check.STATE, x, () -> x.create(0, 0, 1, 99, 0));
        x.delete(0, 99);
        Check.is("again the file 60", x.create(0, 0, 1, 99, 0), 0);
        Check.isRefused("again the file 61", Check.STATE, x, () -> x.create(0, 0, 0, 99, 0));
    }

    private static void noFile(String what, Story x, int[][] places, Asked call) {
        for (int[] p : places) {
            Check.isRefused(what + " " + p[0] + " " + p[1], Check.STATE, x, () -> call.answer(p[0], p[1]));
        }
    }

    private interface Asked {
        int answer(int directory, int name);
    }

    private static final int[][] BESIDE = {{5, 49}, {5, 51}, {4, 50}, {6, 50}, {0, 0}, {9, 99}};

    /** IllegalStateException "if there is no such file". */
    private static void resize() {
        Story x = withFile();
        noFile("resize", x, BESIDE, (d, n) -> x.resize(d, n, 0));
        Check.isRefused("resize, the size first", Check.ARGUMENT, x, () -> x.resize(5, 51, 5001));
        Check.isRefused("resize, the size first", Check.ARGUMENT, x, () -> x.resize(5, 51, -1));
        Check.isRefused("resize, the directory first", Check.INDEX, x, () -> x.resize(-1, 50, 5001));
        Check.isRefused("resize, the name first", Check.INDEX, x, () -> x.resize(5, -1, 5001));
        Check.is("there is one", x.resize(5, 50, 0), 0);
        x.delete(5, 50);
        noFile("resize, deleted", x, new int[][] {{5, 50}}, (d, n) -> x.resize(d, n, 0));
    }

    /** IllegalStateException "if there is no such file". */
    private static void delete() {
        Story x = withFile();
        noFile("delete", x, BESIDE, (d, n) -> x.delete(d, n));
        Check.is("there is one", x.delete(5, 50), 1);
        noFile("delete, deleted", x, new int[][] {{5, 50}}, (d, n) -> x.delete(d, n));
    }

    /** IllegalStateException "if there is no such file". */
    private static void move() {
        Story x = withFile();
        noFile("move", x, BESIDE, (d, n) -> x.move(d, n, 0, 0));
        Check.isRefused("move, the user first", Check.INDEX, x, () -> x.move(5, 51, 6, 0));
        Check.isRefused("move, the user first", Check.INDEX, x, () -> x.move(5, 51, -1, 0));
        Check.isRefused("move, the group first", Check.INDEX, x, () -> x.move(5, 51, 0, 3));
        Check.isRefused("move, the group first", Check.INDEX, x, () -> x.move(5, 51, 0, -1));
        x.setLimits(0, 1, 1, 1);
        x.create(0, 0, 0, 0, 0);
        Check.isRefused("move, an exception and no refusal", Check.STATE, x, () -> x.move(5, 51, 0, 0));
        Check.is("there is one", x.move(5, 50, 2, 2), 0);
        x.delete(5, 50);
        noFile("move, deleted", x, new int[][] {{5, 50}}, (d, n) -> x.move(d, n, 0, 0));
    }

    /**
     * IllegalArgumentException "if both limits are different from 0 and the soft limit is greater than the hard
     * limit".
     */
    private static void setLimits() {
        Story x = withFile();
        int[][] wrong = {{2, 1}, {100000, 99999}, {100000, 1}, {100001, 100001}, {-1, -1}, {-1, 5}, {5, -1},
            {100001, 0}, {0, 100001}};
        for (int[] p : wrong) {
            Check.isRefused("setLimits " + p[0] + " " + p[1], Check.ARGUMENT, x, () -> x.setLimits(1, 0, p[0], p[1]));
            Check.isRefused("setLimits, the account first", Check.INDEX, x, () -> x.setLimits(9, 0, p[0], p[1]));
            Check.isRefused("setLimits, the resource first", Check.INDEX, x, () -> x.setLimits(1, 2, p[0], p[1]));
        }
        int[][] good = {{1, 1}, {1, 2}, {99999, 100000}, {100000, 100000}, {2, 0}, {100000, 0}, {0, 1}, {0, 0}};
        for (int[] p : good) {
            Check.is("setLimits " + p[0] + " " + p[1], x.setLimits(1, 0, p[0], p[1]), 1);
            Check.is("soft", x.softLimit(1, 0), p[0]);
            Check.is("hard", x.hardLimit(1, 0), p[1]);
        }
    }

    private static void setGrace() {
        Story x = new Story();
        Check.isRefused("setGrace, the resource first", Check.INDEX, x, () -> x.setGrace(2, 0));
        Check.isRefused("setGrace, the resource first", Check.INDEX, x, () -> x.setGrace(-1, 61));
    }

    /** IllegalStateException "if no grace period of the account and the resource is running". */
    private static void restartGrace() {
        Story x = withFile();
        x.setLimits(1, 1, 1, 0);
        Check.isRefused("restartGrace, at the limit", Check.STATE, x, () -> x.restartGrace(1, 1));
        x.create(1, 1, 5, 51, 0);
        Check.isRefused("restartGrace, the other resource", Check.STATE, x, () -> x.restartGrace(1, 0));
        Check.isRefused("restartGrace, the account below", Check.STATE, x, () -> x.restartGrace(0, 1));
        Check.isRefused("restartGrace, the account above", Check.STATE, x, () -> x.restartGrace(2, 1));
        Check.isRefused("restartGrace, the account first", Check.INDEX, x, () -> x.restartGrace(9, 1));
        Check.is("running", x.restartGrace(1, 1), 0);
        x.nextDays(8);
        Check.is("over, but running", x.restartGrace(1, 1), 0);
        x.delete(5, 51);
        Check.isRefused("restartGrace, cleared", Check.STATE, x, () -> x.restartGrace(1, 1));
    }

    private static Story onDay(int day) {
        Story x = new Story();
        for (int left = day; left > 0; left -= 100) {
            x.nextDays(Math.min(left, 100));
        }
        return x;
    }

    /** IllegalStateException "if the current day would become greater than 10000". */
    private static void nextDays() {
        int[][] beyond = {{10000, 1}, {10000, 100}, {9999, 2}, {9999, 100}, {9950, 51}, {9902, 99}, {9901, 100}};
        for (int[] p : beyond) {
            Story x = onDay(p[0]);
            Check.isRefused("nextDays from " + p[0], Check.STATE, x, () -> x.nextDays(p[1]));
        }
        int[][] within = {{9999, 1}, {9998, 2}, {9950, 50}, {9901, 99}, {9900, 100}};
        for (int[] p : within) {
            Story x = onDay(p[0]);
            Check.is("nextDays from " + p[0], x.nextDays(p[1]), 0);
            Check.is("the last day", x.day(), 10000);
        }
        Story y = onDay(10000);
        for (int days : new int[] {0, -1, 101, Integer.MAX_VALUE, Integer.MIN_VALUE}) {
            Check.isRefused("nextDays, the number first", Check.ARGUMENT, y, () -> y.nextDays(days));
        }
    }

    private static Story withText(String text) {
        Story x = new Story();
        Texts.put(x, text);
        return x;
    }

    /** IllegalStateException "if the text has 100 characters". */
    private static void appendText() {
        Story x = withText("n".repeat(99));
        Check.is("the character 100", x.appendText('n'), 100);
        Check.isRefused("the character 101", Check.STATE, x, () -> x.appendText('n'));
        Check.isRefused("appendText, the code first", Check.ARGUMENT, x, () -> x.appendText(31));
        Check.isRefused("appendText, the code first", Check.ARGUMENT, x, () -> x.appendText(127));
        x.clearText();
        Check.is("room again", x.appendText('n'), 1);
    }

    /** IllegalStateException "if the text is not valid". */
    private static void runText() {
        for (String text : new String[] {"", "n", "n0", "n101", "n1;", "n1;;n1", ";n1", "n1 ", "d0,0,", "c0,0,0,0"}) {
            Story x = withText(text);
            Check.isRefused("runText of '" + text + "'", Check.STATE, x, () -> x.runText());
        }
        for (String text : new String[] {"n1", "n100", "n1;n1"}) {
            Story x = withText(text);
            Check.isTaken("runText of " + text, () -> x.runText());
        }
    }

    /** IllegalStateException "if there is no saved state". */
    private static void undo() {
        Story x = new Story();
        Check.isRefused("undo of nothing", Check.STATE, x, () -> x.undo());
        x.setGrace(0, 8);
        Check.is("undo of one call", x.undo(), 0);
        Check.isRefused("undo of nothing more", Check.STATE, x, () -> x.undo());
    }

    /** IllegalStateException "if the slot is empty". */
    private static void restore() {
        for (int slot = 0; slot < 2; slot++) {
            int filled = slot;
            Story x = new Story();
            x.save(filled);
            Check.isRefused("restore of the other slot", Check.STATE, x, () -> x.restore(1 - filled));
            Check.isRefused("restore, no such slot", Check.INDEX, x, () -> x.restore(2));
            Check.is("restore", x.restore(filled), 0);
            x.undo();
            Check.is("restore again", x.restore(filled), 0);
        }
    }

    private static void forecasts() {
        Story x = new Story();
        int[][] wrong = {{6, 0}, {-1, 0}, {0, 3}, {0, -1}};
        for (int[] p : wrong) {
            Check.isRefused("ifCreated, the index first", Check.INDEX, x, () -> x.ifCreated(p[0], p[1], -1));
            Check.isRefused("ifCreated, the index first", Check.INDEX, x, () -> x.ifCreated(p[0], p[1], 5001));
            Check.isRefused("refusedOnDay, the index first", Check.INDEX, x, () -> x.refusedOnDay(p[0], p[1], 0));
            Check.isRefused("refusedOnDay, the index first", Check.INDEX, x, () -> x.refusedOnDay(p[0], p[1], 5001));
        }
    }

    private static void event() {
        Story x = new Story();
        for (int part : new int[] {-1, 4}) {
            Check.isRefused("event, the index first", Check.INDEX, x, () -> x.event(-1, part));
            Check.isRefused("event, no such part of no event", Check.ARGUMENT, x, () -> x.event(0, part));
        }
    }
}
