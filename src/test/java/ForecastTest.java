/** Promises 33 and 34: ifCreated, refusedOnDay. */
public final class ForecastTest {
    public static void main(String[] args) {
        ifCreated();
        refusedByHardLimit();
        refusedByGrace();
        runningGrace();
        clearedByNothing();
        lastDays();
        Check.end();
    }

    private static void ifCreated() {
        Story x = new Story();
        Check.is("no limits", x.ifCreated(5, 2, 5000), 0);
        x.setLimits(5, 0, 0, 10);
        Check.is("at the hard limit", x.ifCreated(5, 2, 10), 0);
        Check.is("above it", x.ifCreated(5, 2, 11), 1);
        x.setLimits(5, 0, 0, 0);
        x.create(5, 2, 0, 0, 3);
        x.setLimits(5, 1, 0, 1);
        Check.is("the user's files", x.ifCreated(5, 2, 0), 3);
        Check.is("another user", x.ifCreated(4, 2, 0), 0);
        x.setLimits(5, 1, 0, 2);
        x.setLimits(8, 1, 0, 2);
        Check.is("at the hard limits for FILES", x.ifCreated(5, 2, 0), 0);
        x.setLimits(8, 0, 2, 0);
        x.nextDays(7);
        Check.is("the group's blocks", x.ifCreated(4, 2, 1), 6);
        Check.is("no blocks", x.ifCreated(4, 2, 0), 0);
        x.setLimits(8, 1, 0, 1);
        Check.is("the group's files", x.ifCreated(4, 2, 0), 7);
        x.setExempt(4, true);
        Check.is("an exempt user", x.ifCreated(4, 2, 5000), 0);
        Check.is("nothing is logged", x.event(0, 0), 3);
        Check.is("nothing is counted", x.refusals(5) + x.refusals(8), 0);
        int states = x.savedStates();
        x.undo();
        x.ifCreated(4, 2, 0);
        Check.is("not undoable", x.savedStates(), states - 1);
        for (int i = 1; i < 60; i++) {
            x.create(0, 0, 1, i, 0);
        }
        Check.is("sixty files", x.fileCount(), 60);
        Check.is("their number does not matter", x.ifCreated(0, 0, 1), 0);
    }

    private static void refusedByHardLimit() {
        Story x = new Story();
        Check.is("no limits", x.refusedOnDay(0, 0, 5000), -1);
        x.setLimits(0, 0, 0, 400);
        Check.is("never in 400 days", x.refusedOnDay(0, 0, 1), -1);
        x.setLimits(0, 0, 0, 399);
        Check.is("on the day 400", x.refusedOnDay(0, 0, 1), 400);
        x.setLimits(0, 0, 0, 9);
        Check.is("on the day 4", x.refusedOnDay(0, 0, 3), 4);
        Check.is("on the first day", x.refusedOnDay(0, 0, 10), 1);
        x.setLimits(6, 0, 0, 5);
        Check.is("by the group", x.refusedOnDay(0, 0, 3), 2);
        Check.is("another group", x.refusedOnDay(0, 1, 3), 4);
        x.setLimits(0, 1, 0, 1);
        x.create(0, 1, 0, 0, 1);
        Check.is("files do not matter", x.refusedOnDay(0, 1, 3), 3);
        x.setExempt(0, true);
        Check.is("an exempt user", x.refusedOnDay(0, 0, 3), -1);
    }

    private static void refusedByGrace() {
        Story x = new Story();
        x.setGrace(0, 10);
        x.setLimits(2, 0, 100, 0);
        Check.is("the grace starts on the day 3", x.refusedOnDay(2, 2, 40), 13);
        Check.is("on the day 2", x.refusedOnDay(2, 2, 51), 12);
        Check.is("on the day 1", x.refusedOnDay(2, 2, 101), 11);
        Check.is("at the limit on the day 2", x.refusedOnDay(2, 2, 50), 13);
        x.setLimits(2, 0, 0, 0);
        x.setLimits(8, 0, 100, 0);
        Check.is("of the group", x.refusedOnDay(2, 2, 40), 13);
        x.setGrace(1, 1);
        Check.is("the length for FILES does not matter", x.refusedOnDay(2, 2, 40), 13);
    }

    private static void runningGrace() {
        Story x = new Story();
        x.setLimits(1, 0, 5, 0);
        x.create(1, 1, 0, 0, 6);
        x.nextDays(4);
        Check.is("three days are left", x.refusedOnDay(1, 1, 1), 3);
        x.nextDays(2);
        Check.is("one day is left", x.refusedOnDay(1, 1, 1), 1);
        x.nextDays(1);
        Check.is("over", x.refusedOnDay(1, 1, 1), 1);
        x.nextDays(50);
        Check.is("over for long", x.refusedOnDay(1, 2, 1), 1);
    }

    private static void clearedByNothing() {
        Story x = new Story();
        x.setLimits(0, 0, 1, 0);
        x.create(0, 0, 0, 0, 2);
        String before = Picture.of(x);
        Check.is("refused", x.refusedOnDay(0, 0, 1), 7);
        Check.is("and once more", x.refusedOnDay(0, 0, 1), 7);
        Check.isSame("nothing changes", Picture.of(x), before);
    }

    private static void lastDays() {
        Story x = new Story();
        for (int i = 0; i < 100; i++) {
            x.nextDays(100);
        }
        x.setLimits(0, 0, 0, 300);
        Check.is("beyond the last day", x.refusedOnDay(0, 0, 1), 301);
        x.setLimits(0, 0, 10, 0);
        Check.is("a grace period beyond the last day", x.refusedOnDay(0, 0, 1), 18);
        Check.is("the day stays", x.day(), 10000);
    }
}
