/** Promises 6 to 10: setLimits, setGrace, restartGrace, setExempt, nextDays. */
public final class AdministrationTest {
    public static void main(String[] args) {
        setLimits();
        setLimitsReviewsOne();
        setGrace();
        restartGrace();
        setExempt();
        nextDays();
        nextDaysOrder();
        Check.end();
    }

    private static void setLimits() {
        Story x = new Story();
        x.create(2, 1, 0, 0, 30);
        Check.is("answers the usage for BLOCKS", x.setLimits(2, 0, 40, 50), 30);
        Check.is("answers the usage for FILES", x.setLimits(7, 1, 1, 1), 1);
        Check.is("undoable", x.savedStates(), 3);
        Check.is("soft", x.softLimit(2, 0), 40);
        Check.is("hard", x.hardLimit(2, 0), 50);
        Check.is("the other resource", x.softLimit(2, 1) + x.hardLimit(2, 1), 0);
        Check.is("the other account", x.softLimit(7, 0) + x.hardLimit(7, 0), 0);
        Check.is("the greatest", x.setLimits(0, 0, 100000, 100000), 0);
        Check.is("soft alone", x.setLimits(0, 0, 100000, 0), 0);
        Check.is("hard alone", x.setLimits(0, 0, 0, 1), 0);
        Check.is("none", x.setLimits(0, 0, 0, 0), 0);
        Check.is("the last one", x.setLimits(8, 1, 3, 4), 0);
        Check.is("its soft limit", x.softLimit(8, 1), 3);
        Check.is("its hard limit", x.hardLimit(8, 1), 4);
    }

    private static void setLimitsReviewsOne() {
        Story x = new Story();
        x.create(2, 1, 0, 0, 30);
        x.nextDays(4);
        x.setLimits(2, 0, 30, 0);
        Check.is("at the limit", x.graceStart(2, 0), -1);
        x.setLimits(2, 0, 29, 0);
        Check.is("above it", x.graceStart(2, 0), 4);
        Check.is("its event", x.event(0, 0), 1);
        Check.is("its day", x.event(0, 3), 4);
        x.nextDays(1);
        x.setLimits(2, 0, 10, 10);
        Check.is("still running", x.graceStart(2, 0), 4);
        Check.is("no new event", x.eventCount(), 1);
        x.setLimits(2, 0, 0, 10);
        Check.is("without a soft limit", x.graceStart(2, 0), -1);
        Check.is("cleared", x.event(0, 0), 2);
        Check.is("on the day", x.event(0, 3), 5);
        Check.is("two events", x.eventCount(), 2);
        x.setLimits(2, 0, 29, 0);
        x.setLimits(2, 0, 31, 0);
        Check.is("below the limit", x.graceStart(2, 0), -1);
        Check.is("cleared again", x.event(0, 0), 2);
    }

    private static void setGrace() {
        Story x = new Story();
        x.setLimits(0, 0, 1, 0);
        x.create(0, 0, 0, 0, 2);
        x.nextDays(3);
        Check.is("the previous length", x.setGrace(0, 60), 7);
        Check.is("undoable", x.savedStates(), 4);
        Check.is("the length", x.graceLength(0), 60);
        Check.is("the other length", x.graceLength(1), 7);
        Check.is("the start day stays", x.graceStart(0, 0), 0);
        Check.is("the days left", x.graceLeft(0, 0), 57);
        Check.is("the least", x.setGrace(0, 1), 60);
        Check.is("over now", x.graceLeft(0, 0), 0);
        Check.is("one is over", x.overGraces(), 1);
        Check.is("that is no event", x.eventCount(), 1);
        Check.is("the resource FILES", x.setGrace(1, 9), 7);
        Check.is("its length", x.graceLength(1), 9);
        Check.is("the same again", x.setGrace(1, 9), 9);
        Check.is("the length of BLOCKS", x.graceLength(0), 1);
    }

    private static void restartGrace() {
        Story x = new Story();
        x.setLimits(7, 1, 1, 0);
        x.nextDays(2);
        x.create(0, 1, 0, 0, 0);
        x.create(0, 1, 0, 1, 0);
        x.nextDays(7);
        Check.is("over", x.overGraces(), 1);
        int events = x.eventCount();
        Check.is("the previous start", x.restartGrace(7, 1), 2);
        Check.is("undoable", x.savedStates(), 6);
        Check.is("the start", x.graceStart(7, 1), 9);
        Check.is("not over", x.overGraces(), 0);
        Check.is("no event", x.eventCount(), events);
        Check.is("the same day again", x.restartGrace(7, 1), 9);
        Check.is("not refused", x.create(0, 1, 0, 2, 0), 0);
        Check.is("it ends again", x.nextDays(7), 1);
    }

    private static void setExempt() {
        Story x = new Story();
        Check.is("the first", x.setExempt(5, true), 1);
        Check.is("undoable", x.savedStates(), 1);
        Check.is("exempt", x.isExempt(5), true);
        Check.is("another is not", x.isExempt(4), false);
        Check.is("twice", x.setExempt(5, true), 1);
        Check.is("the second", x.setExempt(0, true), 2);
        Check.is("saved each time", x.savedStates(), 3);
        Check.is("the first again not", x.setExempt(5, false), 1);
        Check.is("no longer exempt", x.isExempt(5), false);
        Check.is("not twice", x.setExempt(5, false), 1);
        for (int user = 0; user < 6; user++) {
            x.setExempt(user, true);
        }
        Check.is("all", x.setExempt(3, true), 6);
    }

    private static void nextDays() {
        Story x = new Story();
        Check.is("no grace period", x.nextDays(1), 0);
        Check.is("the day", x.day(), 1);
        Check.is("undoable as one call", x.savedStates(), 1);
        x.setLimits(0, 0, 1, 0);
        x.create(0, 0, 0, 0, 2);
        Check.is("not yet", x.nextDays(6), 0);
        Check.is("ended", x.nextDays(1), 1);
        Check.is("the day then", x.day(), 8);
        Check.is("its event", x.event(0, 0), 3);
        Check.is("its account", x.event(0, 1), 0);
        Check.is("its resource", x.event(0, 2), 0);
        Check.is("its day", x.event(0, 3), 8);
        Check.is("it ends once", x.nextDays(100), 0);
        Check.is("still running", x.graceStart(0, 0), 1);
        x.restartGrace(0, 0);
        Check.is("in the midst of the days", x.nextDays(100), 1);
        Check.is("on its day", x.event(0, 3), 115);
        Check.is("the last day", x.day(), 208);
        int before = x.savedStates();
        Check.is("six saved states", before, 6);
        x.undo();
        Check.is("undone as one", x.day(), 108);
        x.setGrace(0, 60);
        x.nextDays(50);
        x.setGrace(0, 49);
        Check.is("a length that has passed by", x.nextDays(5), 0);
        x.setGrace(0, 60);
        Check.is("a length that comes again", x.nextDays(5), 1);
    }

    private static void nextDaysOrder() {
        Story x = new Story();
        x.setGrace(1, 5);
        x.create(2, 2, 0, 0, 9);
        x.create(2, 2, 0, 1, 9);
        x.setLimits(8, 1, 1, 0);
        x.setLimits(2, 1, 1, 0);
        x.setLimits(8, 0, 1, 0);
        x.setLimits(2, 0, 1, 0);
        Check.is("four end", x.nextDays(7), 4);
        int[][] due = {{8, 0, 7}, {2, 0, 7}, {8, 1, 5}, {2, 1, 5}};
        for (int i = 0; i < 4; i++) {
            Check.is("the event " + i, x.event(i, 0), 3);
            for (int part = 0; part < 3; part++) {
                Check.is("its part", x.event(i, part + 1), due[i][part]);
            }
        }
        x.setGrace(1, 7);
        x.restartGrace(2, 1);
        x.restartGrace(2, 0);
        Check.is("both resources end", x.nextDays(7), 2);
        Check.is("BLOCKS first", x.event(1, 2), 0);
        Check.is("then FILES", x.event(0, 2), 1);
    }
}
