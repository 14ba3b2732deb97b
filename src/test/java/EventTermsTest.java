/** Term 6 at its boundaries: the log and the days on which grace periods end. */
public final class EventTermsTest {
    public static void main(String[] args) {
        theLatestIsFirst();
        atMostTwelve();
        for (Pair pair : Pair.all()) {
            endsOnItsDay(pair);
        }
        endsAmongManyDays();
        endsOnce();
        endsNotByAnotherLength();
        endsAgain();
        clearedDoesNotEnd();
        allEndOnOneDay();
        restartIsNoEvent();
        Check.end();
    }

    /** "The log holds events, the latest one first." "The day of an event is the current day at that moment." */
    private static void theLatestIsFirst() {
        Story x = new Story();
        x.setLimits(4, 0, 5, 8);
        x.nextDays(1);
        Check.is("none", x.eventCount(), 0);
        x.create(4, 1, 0, 0, 6);
        x.nextDays(1);
        x.resize(0, 0, 9);
        x.nextDays(8);
        x.resize(0, 0, 5);
        String[] due = {"2 4 0 10", "3 4 0 8", "4 4 0 2", "1 4 0 1", "-1 -1 -1 -1"};
        Check.is("four", x.eventCount(), 4);
        for (int i = 0; i < due.length; i++) {
            Check.isSame("the event " + i, Pair.event(x, i), due[i]);
        }
    }

    /** "The log holds at most 12 events; the oldest one is discarded when a thirteenth is added." */
    private static void atMostTwelve() {
        Story x = new Story();
        x.setLimits(8, 1, 0, 1);
        x.create(0, 2, 0, 0, 0);
        for (int number = 1; number <= 40; number++) {
            x.nextDays(1);
            x.create(0, 2, 0, 1, 0);
            int held = Math.min(number, 12);
            Check.is("events after " + number, x.eventCount(), held);
            Check.is("the latest", x.event(0, 3), number);
            Check.is("the oldest", x.event(held - 1, 3), number - held + 1);
            Check.is("none behind it", x.event(held, 3), -1);
        }
    }

    /**
     * "A day begins on which the current day minus the start day of a running grace period equals the grace length."
     */
    private static void endsOnItsDay(Pair pair) {
        Story x = new Story();
        x.setGrace(pair.resource, 4);
        x.nextDays(2);
        pair.begin(x, 2);
        pair.limit(x, 1, 0);
        Check.is(pair.name() + " ends too early", x.nextDays(3), 0);
        Check.is("one event", x.eventCount(), 1);
        Check.is(pair.name() + " ends", x.nextDays(1), 1);
        Check.is("two events", x.eventCount(), 2);
        Check.isSame("its event", Pair.event(x, 0), pair.event(3, 6));
        Check.is(pair.name() + " ends too late", x.nextDays(1), 0);
        Check.is("two events", x.eventCount(), 2);
    }

    /** Promise 10: "lets days pass, one after the other". */
    private static void endsAmongManyDays() {
        int[][] days = {{6, 0}, {7, 1}, {8, 1}, {100, 1}};
        for (int[] d : days) {
            Story x = new Story();
            x.create(0, 0, 0, 0, 2);
            x.setLimits(0, 0, 1, 0);
            Check.is(d[0] + " days", x.nextDays(d[0]), d[1]);
            Check.is("its day", d[1] == 0 ? 7 : x.event(0, 3), 7);
            Check.is("the day", x.day(), d[0]);
        }
    }

    private static void endsOnce() {
        Story x = new Story();
        x.create(0, 0, 0, 0, 2);
        x.setLimits(0, 0, 1, 0);
        int ended = 0;
        for (int i = 0; i < 30; i++) {
            ended += x.nextDays(1);
        }
        Check.is("in thirty days", ended, 1);
    }

    /** A length that is set below the days that have passed makes a period over, but no day begins that equals it. */
    private static void endsNotByAnotherLength() {
        Story x = new Story();
        x.create(0, 0, 0, 0, 2);
        x.setLimits(0, 0, 1, 0);
        x.nextDays(5);
        x.setGrace(0, 5);
        Check.is("over", x.overGraces(), 1);
        Check.is("no event", x.eventCount(), 1);
        Check.is("the next day is too late", x.nextDays(1), 0);
        Check.is("and all others", x.nextDays(50), 0);
    }

    private static void endsAgain() {
        Story x = new Story();
        x.create(0, 0, 0, 0, 2);
        x.setLimits(0, 0, 1, 0);
        Check.is("ends", x.nextDays(7), 1);
        x.setGrace(0, 8);
        Check.is("ends by a longer length", x.nextDays(1), 1);
        x.restartGrace(0, 0);
        Check.is("not within it", x.nextDays(7), 0);
        Check.is("ends again", x.nextDays(1), 1);
        Check.isSame("its event", Pair.event(x, 0), "3 0 0 16");
    }

    /** Only "a running grace period" ends. */
    private static void clearedDoesNotEnd() {
        Story x = new Story();
        Check.is("on the day that equals the length", x.nextDays(7), 0);
        x.create(0, 0, 0, 0, 2);
        x.setLimits(0, 0, 1, 0);
        x.nextDays(6);
        x.resize(0, 0, 1);
        Check.is("cleared the day before", x.nextDays(5), 0);
        Check.isSame("its event", Pair.event(x, 0), "2 0 0 13");
    }

    /**
     * "In ascending order of their numbers, each of them for BLOCKS first and then for FILES", with more than 12 of
     * them.
     */
    private static void allEndOnOneDay() {
        Story x = new Story();
        Pair.twoFilesEach(x);
        Pair[] pairs = Pair.all();
        for (Pair pair : pairs) {
            pair.limit(x, 1, 0);
        }
        Check.is("all run", x.runningGraces(), 18);
        Check.is("none is over", x.overGraces(), 0);
        Check.is("none ends", x.nextDays(6), 0);
        Check.is("all end", x.nextDays(1), 18);
        Check.is("all are over", x.overGraces(), 18);
        Check.is("the log is full", x.eventCount(), 12);
        for (int i = 0; i < 12; i++) {
            Check.isSame("the event " + i, Pair.event(x, i), pairs[17 - i].event(3, 7));
        }
        Check.isSame("no more", Pair.event(x, 12), "-1 -1 -1 -1");
    }

    /** Promise 8: "its start day becomes the current day. This is not an event." */
    private static void restartIsNoEvent() {
        for (Pair pair : Pair.all()) {
            Story x = new Story();
            pair.begin(x, 2);
            pair.limit(x, 1, 0);
            x.nextDays(7);
            Check.is(pair.name() + " is refused", pair.grow(x), pair.graceReason());
            Check.is(pair.name() + " restarts", x.restartGrace(pair.account, pair.resource), 0);
            Check.is(pair.name() + " starts now", pair.start(x), 7);
            Check.is(pair.name() + " has all days left", pair.left(x), 7);
            Check.is("three events", x.eventCount(), 3);
            Check.is(pair.name() + " grows", pair.grow(x), 0);
        }
    }
}
