/** Terms 2 and 3 at their boundaries, each for all accounts and both resources: limits, reviews and grace periods. */
public final class LimitTermsTest {
    public static void main(String[] args) {
        first();
        for (Pair pair : Pair.all()) {
            noLimit(pair);
            leastHardLimit(pair);
            leastSoftLimit(pair);
            startsAboveTheSoftLimit(pair);
            startsByALowerSoftLimit(pair);
            startsOnce(pair);
            clearedAtTheSoftLimit(pair);
            clearedByAHigherSoftLimit(pair);
            clearedWithoutSoftLimit(pair);
            clearedWhenOver(pair);
            nothingBelowTheSoftLimit(pair);
            overAtTheLength(pair, 1);
            overAtTheLength(pair, 7);
            overAtTheLength(pair, 60);
            overByAShorterLength(pair);
        }
        greatestHardLimit();
        greatestSoftLimit();
        softLimitAtTheHardLimit();
        Check.end();
    }

    /** "All limits are 0 at first", the day is 0, the grace lengths are 7, no grace period is running. */
    private static void first() {
        Story x = new Story();
        Check.is("the day", x.day(), 0);
        for (int resource = 0; resource < 2; resource++) {
            Check.is("the grace length", x.graceLength(resource), 7);
            for (int account = 0; account < 9; account++) {
                Check.is("soft", x.softLimit(account, resource), 0);
                Check.is("hard", x.hardLimit(account, resource), 0);
                Check.is("start", x.graceStart(account, resource), -1);
            }
        }
        Check.is("running", x.runningGraces(), 0);
    }

    /** "A limit of 0 means that there is no such limit." */
    private static void noLimit(Pair pair) {
        Story x = new Story();
        pair.begin(x, 1);
        pair.limit(x, 0, 0);
        x.nextDays(100);
        Check.is(pair.name() + " grows", pair.grow(x), 0);
        Check.is(pair.name() + " is not above", pair.start(x), -1);
        Check.is(pair.name() + " is unlimited", pair.available(x), -2);
        Check.is("no event", x.eventCount(), 0);
    }

    /** The same sentence from the other side: a hard limit of 1 is one. */
    private static void leastHardLimit(Pair pair) {
        Story x = new Story();
        pair.begin(x, 0);
        pair.limit(x, 0, 1);
        Check.is(pair.name() + " to the limit", pair.grow(x), 0);
        Check.is(pair.name() + " above it", pair.grow(x), pair.hardReason());
        pair.limit(x, 0, 0);
        Check.is(pair.name() + " without it", pair.grow(x), 0);
    }

    /** And a soft limit of 1 is one. */
    private static void leastSoftLimit(Pair pair) {
        Story x = new Story();
        pair.begin(x, 0);
        pair.limit(x, 1, 0);
        pair.grow(x);
        Check.is(pair.name() + " at the limit", pair.start(x), -1);
        pair.grow(x);
        Check.is(pair.name() + " above it", pair.start(x), 0);
    }

    /** "If the usage is greater than the soft limit, and no grace period is running, then a grace period starts." */
    private static void startsAboveTheSoftLimit(Pair pair) {
        Story x = new Story();
        pair.begin(x, 2);
        pair.limit(x, 3, 0);
        x.nextDays(5);
        pair.grow(x);
        Check.is(pair.name() + " at the soft limit", pair.start(x), -1);
        Check.is("no event", x.eventCount(), 0);
        pair.grow(x);
        Check.is(pair.name() + " one above", pair.start(x), 5);
        Check.is("one event", x.eventCount(), 1);
        Check.isSame("its event", Pair.event(x, 0), pair.event(1, 5));
        Check.is("no other runs", x.runningGraces(), 1);
    }

    private static void startsByALowerSoftLimit(Pair pair) {
        Story x = new Story();
        pair.begin(x, 3);
        x.nextDays(9);
        pair.limit(x, 3, 0);
        Check.is(pair.name() + " at the soft limit", pair.start(x), -1);
        pair.limit(x, 2, 0);
        Check.is(pair.name() + " one above", pair.start(x), 9);
        Check.isSame("its event", Pair.event(x, 0), pair.event(1, 9));
    }

    /** "And no grace period is running": a running one keeps its start day. */
    private static void startsOnce(Pair pair) {
        Story x = new Story();
        pair.begin(x, 2);
        x.nextDays(1);
        pair.limit(x, 1, 0);
        x.nextDays(1);
        pair.grow(x);
        Check.is(pair.name() + " above for a day", pair.start(x), 1);
        pair.limit(x, 2, 0);
        Check.is(pair.name() + " above another limit", pair.start(x), 1);
        Check.is("one event", x.eventCount(), 1);
    }

    /** "If a grace period is running, and the usage is at most the soft limit, then the grace period is cleared." */
    private static void clearedAtTheSoftLimit(Pair pair) {
        Story x = new Story();
        pair.begin(x, 3);
        pair.limit(x, 1, 0);
        x.nextDays(2);
        pair.shrink(x);
        Check.is(pair.name() + " one above", pair.start(x), 0);
        Check.is("one event", x.eventCount(), 1);
        pair.shrink(x);
        Check.is(pair.name() + " at the soft limit", pair.start(x), -1);
        Check.is("two events", x.eventCount(), 2);
        Check.isSame("its event", Pair.event(x, 0), pair.event(2, 2));
        pair.shrink(x);
        Check.is("no event below", x.eventCount(), 2);
    }

    private static void clearedByAHigherSoftLimit(Pair pair) {
        Story x = new Story();
        pair.begin(x, 3);
        pair.limit(x, 1, 0);
        x.nextDays(3);
        pair.limit(x, 2, 0);
        Check.is(pair.name() + " one above", pair.start(x), 0);
        pair.limit(x, 3, 0);
        Check.is(pair.name() + " at the soft limit", pair.start(x), -1);
        Check.isSame("its event", Pair.event(x, 0), pair.event(2, 3));
    }

    /** "And the soft limit is 0." */
    private static void clearedWithoutSoftLimit(Pair pair) {
        Story x = new Story();
        pair.begin(x, 3);
        pair.limit(x, 1, 0);
        x.nextDays(4);
        pair.limit(x, 1, 9);
        Check.is(pair.name() + " with the soft limit 1", pair.start(x), 0);
        pair.limit(x, 0, 9);
        Check.is(pair.name() + " without one", pair.start(x), -1);
        Check.isSame("its event", Pair.event(x, 0), pair.event(2, 4));
    }

    /** A grace period that is over "is still running then", and is cleared like another. */
    private static void clearedWhenOver(Pair pair) {
        Story x = new Story();
        pair.begin(x, 2);
        pair.limit(x, 1, 0);
        x.nextDays(50);
        Check.is(pair.name() + " runs", pair.start(x), 0);
        pair.shrink(x);
        Check.is(pair.name() + " is cleared", pair.start(x), -1);
        Check.is(pair.name() + " grows again", pair.grow(x), 0);
        Check.is(pair.name() + " starts again", pair.start(x), 50);
    }

    /** "Otherwise nothing changes." */
    private static void nothingBelowTheSoftLimit(Pair pair) {
        Story x = new Story();
        pair.begin(x, 1);
        pair.limit(x, 3, 3);
        pair.grow(x);
        pair.shrink(x);
        pair.limit(x, 2, 2);
        Check.is(pair.name() + " does not run", pair.start(x), -1);
        Check.is("no event", x.eventCount(), 0);
    }

    /**
     * "If the current day minus its start day is at least the grace length of the resource. (It is still running
     * then.)"
     */
    private static void overAtTheLength(Pair pair, int length) {
        Story x = new Story();
        x.setGrace(pair.resource, length);
        x.setGrace(1 - pair.resource, length == 60 ? 1 : length + 1);
        x.nextDays(3);
        pair.begin(x, 2);
        pair.limit(x, 1, 0);
        if (length > 1) {
            x.nextDays(length - 1);
        }
        Check.is(pair.name() + " is not over", x.overGraces(), 0);
        Check.is(pair.name() + " has a day left", pair.left(x), 1);
        Check.is(pair.name() + " is unlimited", pair.available(x), -2);
        Check.is(pair.name() + " grows", pair.grow(x), 0);
        for (int day = length; day < length + 3; day++) {
            x.nextDays(1);
            Check.is(pair.name() + " is over", x.overGraces(), 1);
            Check.is(pair.name() + " has no day left", pair.left(x), 0);
            Check.is(pair.name() + " is still running", x.runningGraces(), 1);
            Check.is(pair.name() + " keeps its start", pair.start(x), 3);
            Check.is(pair.name() + " is full", pair.available(x), 0);
            Check.is(pair.name() + " is refused", pair.grow(x), pair.graceReason());
        }
    }

    /** "The grace length" of the moment counts; "running grace periods keep their start days". */
    private static void overByAShorterLength(Pair pair) {
        Story x = new Story();
        pair.begin(x, 2);
        pair.limit(x, 1, 0);
        x.nextDays(5);
        x.setGrace(pair.resource, 6);
        Check.is(pair.name() + " is not over", pair.grow(x), 0);
        x.setGrace(pair.resource, 5);
        Check.is(pair.name() + " is over", pair.grow(x), pair.graceReason());
        x.setGrace(pair.resource, 6);
        Check.is(pair.name() + " is no longer over", pair.grow(x), 0);
        Check.is(pair.name() + " keeps its start", pair.start(x), 0);
    }

    private static Story withBlocks(int files, int last) {
        Story x = new Story();
        for (int i = 0; i < files; i++) {
            x.create(2, 1, 0, i, 5000);
        }
        x.create(2, 1, 1, 0, last);
        return x;
    }

    /** "A hard limit, from 0 to 100000." */
    private static void greatestHardLimit() {
        for (int account : new int[] {2, 7}) {
            Story x = withBlocks(19, 4999);
            Check.is("the usage", x.setLimits(account, 0, 0, 100000), 99999);
            Check.is("one is available", x.available(account, 0), 1);
            Check.is("to 100000", x.resize(1, 0, 5000), 0);
            Check.is("none is available", x.available(account, 0), 0);
            Check.is("to 100001", x.create(2, 1, 2, 0, 1), account == 2 ? 1 : 5);
            Check.is("no blocks", x.create(2, 1, 2, 0, 0), 0);
        }
    }

    /** "A soft limit, from 0 to 100000." */
    private static void greatestSoftLimit() {
        for (int account : new int[] {2, 7}) {
            Story x = withBlocks(20, 0);
            Check.is("the usage", x.setLimits(account, 0, 100000, 0), 100000);
            Check.is("at the limit", x.graceStart(account, 0), -1);
            x.resize(1, 0, 1);
            Check.is("above it", x.graceStart(account, 0), 0);
            Check.is("one deletion is enough", x.fewestDeletions(account), 1);
        }
    }

    /** "If both limits are different from 0, the soft limit is at most the hard limit." */
    private static void softLimitAtTheHardLimit() {
        for (Pair pair : Pair.all()) {
            Story x = new Story();
            pair.begin(x, 1);
            pair.limit(x, 2, 2);
            Check.is(pair.name() + " to both limits", pair.grow(x), 0);
            Check.is(pair.name() + " is not above", pair.start(x), -1);
            Check.isThrown(pair.name() + " soft above hard", Check.ARGUMENT,
                    () -> x.setLimits(pair.account, pair.resource, 3, 2));
            Check.is(pair.name() + " soft alone", x.setLimits(pair.account, pair.resource, 3, 0), 2);
            Check.is(pair.name() + " hard alone", x.setLimits(pair.account, pair.resource, 0, 2), 2);
            Check.is(pair.name() + " is refused", pair.grow(x), pair.hardReason());
        }
    }
}
