/** Term 4 at its boundaries: which increases are refused, why, and what a refused operation leaves as it is. */
public final class CheckTermsTest {
    private static final Pair[] CHECKED = {new Pair(2, 0), new Pair(2, 1), new Pair(7, 0), new Pair(7, 1)};

    public static void main(String[] args) {
        for (Pair pair : Pair.all()) {
            hardLimit(pair);
            hardLimitBelowTheUsage(pair);
            gracePeriod(pair);
            bothCauses(pair);
        }
        increaseByNothing();
        for (int first = 0; first < 4; first++) {
            for (int second = first + 1; second < 4; second++) {
                firstRefusalDecides(first, second);
            }
        }
        for (int reason = 1; reason <= 8; reason++) {
            exemptCreator(reason);
            exemptNewOwner(reason);
            refusedCreateChangesNothing(reason);
            refusedMoveChangesNothing(reason);
        }
        exemptOwnerResizes();
        exemptionOfAnother();
        refusedByTheGroupStartsNothing();
        refusedMoveClearsNothing();
        Check.end();
    }

    /** "Because of the hard limit, if the hard limit is different from 0 and the usage plus d is greater than it." */
    private static void hardLimit(Pair pair) {
        Story x = new Story();
        pair.begin(x, 2);
        pair.limit(x, 0, 4);
        Check.is(pair.name() + " below the limit", pair.grow(x), 0);
        Check.is(pair.name() + " has one left", pair.available(x), 1);
        Check.is(pair.name() + " to the limit", pair.grow(x), 0);
        Check.is(pair.name() + " has none left", pair.available(x), 0);
        Check.is(pair.name() + " above the limit", pair.grow(x), pair.hardReason());
        Check.is(pair.name() + " stays", pair.usage(x), 4);
        pair.limit(x, 0, 5);
        Check.is(pair.name() + " to a higher limit", pair.grow(x), 0);
    }

    /** "Each limit from 0 to 100000": also less than the usage; then every increase is refused, and no decrease. */
    private static void hardLimitBelowTheUsage(Pair pair) {
        Story x = new Story();
        pair.begin(x, 4);
        pair.limit(x, 0, 2);
        Check.is(pair.name() + " has none left", pair.available(x), 0);
        Check.is(pair.name() + " above", pair.grow(x), pair.hardReason());
        pair.shrink(x);
        Check.is(pair.name() + " shrinks", pair.usage(x), 3);
        Check.is(pair.name() + " still above", pair.grow(x), pair.hardReason());
        pair.shrink(x);
        pair.shrink(x);
        Check.is(pair.name() + " below", pair.grow(x), 0);
    }

    /**
     * "Because of the grace period, if the grace period is over and the usage plus d is greater than the soft limit."
     */
    private static void gracePeriod(Pair pair) {
        Story x = new Story();
        pair.begin(x, 3);
        pair.limit(x, 2, 0);
        x.nextDays(6);
        Check.is(pair.name() + " on the last day", pair.grow(x), 0);
        x.nextDays(1);
        Check.is(pair.name() + " when it is over", pair.grow(x), pair.graceReason());
        pair.shrink(x);
        Check.is(pair.name() + " still above the soft limit", pair.grow(x), pair.graceReason());
        pair.shrink(x);
        Check.is(pair.name() + " from the soft limit", pair.grow(x), 0);
        Check.is(pair.name() + " runs anew", pair.start(x), 7);
    }

    /** "If both causes apply, the hard limit is the cause." */
    private static void bothCauses(Pair pair) {
        Story x = new Story();
        pair.begin(x, 3);
        pair.limit(x, 2, 4);
        x.nextDays(7);
        Check.is(pair.name() + " to the hard limit", pair.grow(x), pair.graceReason());
        pair.limit(x, 2, 3);
        Check.is(pair.name() + " above both", pair.grow(x), pair.hardReason());
        x.restartGrace(pair.account, pair.resource);
        Check.is(pair.name() + " above the hard limit alone", pair.grow(x), pair.hardReason());
    }

    /** "An increase by 0 is never refused", whatever the limits are. */
    private static void increaseByNothing() {
        Story x = new Story();
        x.create(2, 1, 0, 0, 9);
        x.create(2, 1, 0, 1, 9);
        for (int account : new int[] {2, 7}) {
            x.setLimits(account, 0, 1, 1);
        }
        x.nextDays(8);
        Check.is("a file without blocks", x.create(2, 1, 0, 2, 0), 0);
        Check.is("a file of one block", x.create(2, 1, 0, 3, 1), 1);
        Check.is("the same size", x.resize(0, 0, 9), 0);
        Check.is("one block more", x.resize(0, 0, 10), 1);
        Check.is("one block less", x.resize(0, 0, 8), 0);
        for (int account : new int[] {2, 7}) {
            x.setLimits(account, 0, 0, 0);
            x.setLimits(account, 1, 1, 1);
        }
        x.nextDays(8);
        Check.is("no file more", x.resize(0, 0, 5000), 0);
        Check.is("one file more", x.create(2, 1, 0, 3, 0), 3);
        Check.is("to where it is", x.move(0, 0, 2, 1), 0);
        x.create(0, 0, 1, 1, 0);
        Check.is("from elsewhere", x.move(1, 1, 2, 0), 3);
        Check.is("from elsewhere to the group", x.move(1, 1, 0, 1), 7);
    }

    /** User 2 and group 1 with the usages 4 and 2; each of the pairs can be made to refuse. */
    private static Story checked() {
        Story x = new Story();
        x.create(2, 1, 0, 0, 4);
        x.create(2, 1, 0, 1, 0);
        return x;
    }

    private static void refuseBy(Story x, int check, boolean grace) {
        int usage = check % 2 == 0 ? 4 : 2;
        CHECKED[check].limit(x, grace ? 1 : 0, grace ? 0 : usage);
    }

    /** "The first increase that is refused decides the reason", in the order of the four checks. */
    private static void firstRefusalDecides(int first, int second) {
        for (int causes = 0; causes < 4; causes++) {
            boolean firstGrace = causes / 2 == 1;
            boolean secondGrace = causes % 2 == 1;
            Story x = checked();
            refuseBy(x, first, firstGrace);
            refuseBy(x, second, secondGrace);
            x.nextDays(7);
            int due = 2 * first + (firstGrace ? 2 : 1);
            String what = "checks " + first + " and " + second;
            Check.is(what, x.ifCreated(2, 1, 1), due);
            Check.is(what, x.create(2, 1, 0, 2, 1), due);
            Check.is(what + ", the first is counted", x.refusals(CHECKED[first].account), 1);
            Check.isSame(what + ", the first is logged", Pair.event(x, 0), CHECKED[first].event(4, 7));
            CHECKED[first].limit(x, 0, 0);
            Check.is(what + ", then the second", x.create(2, 1, 0, 2, 1), 2 * second + (secondGrace ? 2 : 1));
            CHECKED[second].limit(x, 0, 0);
            Check.is(what + ", then none", x.create(2, 1, 0, 2, 1), 0);
        }
    }

    private static Story refusing(int reason) {
        Story x = checked();
        refuseBy(x, (reason - 1) / 2, reason % 2 == 0);
        x.nextDays(7);
        return x;
    }

    /** "An operation whose acting user is exempt is not checked at all": the owner acts when a file is created. */
    private static void exemptCreator(int reason) {
        Story x = refusing(reason);
        x.setExempt(2, true);
        Check.is("ifCreated by an exempt user", x.ifCreated(2, 1, 1), 0);
        x.save(0);
        Check.is("create by an exempt user", x.create(2, 1, 1, 0, 1), 0);
        x.restore(0);
        x.setExempt(2, false);
        Check.is("ifCreated, no longer exempt", x.ifCreated(2, 1, 1), reason);
        Check.is("create, no longer exempt", x.create(2, 1, 1, 0, 1), reason);
    }

    /** "The acting user is the new owner" when a file is moved, not the present one. */
    private static void exemptNewOwner(int reason) {
        Story x = refusing(reason);
        x.create(0, 0, 1, 0, 1);
        x.setExempt(0, true);
        Check.is("the present owner is exempt", x.move(1, 0, 2, 1), reason);
        x.setExempt(0, false);
        x.setExempt(2, true);
        Check.is("the new owner is exempt", x.move(1, 0, 2, 1), 0);
    }

    /** "The acting user is the owner" when a file is resized. */
    private static void exemptOwnerResizes() {
        for (int reason : new int[] {1, 2, 5, 6}) {
            Story x = refusing(reason);
            x.setExempt(2, true);
            Check.is("resize by an exempt owner", x.resize(0, 0, 5), 0);
            x.resize(0, 0, 4);
            x.setExempt(2, false);
            Check.is("resize, no longer exempt", x.resize(0, 0, 5), reason);
        }
    }

    private static void exemptionOfAnother() {
        Story x = refusing(5);
        for (int user = 0; user < 6; user++) {
            x.setExempt(user, user != 2);
        }
        Check.is("all others are exempt", x.create(2, 1, 1, 0, 1), 5);
        Check.is("one of them", x.create(3, 1, 1, 0, 1), 0);
    }

    private static void isRefusal(Story x, int reason, Check.Call call) {
        Pair pair = CHECKED[(reason - 1) / 2];
        String before = Picture.ofFilesAndGraces(x);
        int events = x.eventCount();
        int states = x.savedStates();
        Check.is("the reason", call.answer(), reason);
        Check.isSame("files, usages and grace periods stay", Picture.ofFilesAndGraces(x), before);
        for (int account = 0; account < 9; account++) {
            Check.is("refusals of " + account, x.refusals(account), account == pair.account ? 1 : 0);
        }
        Check.is("one event", x.eventCount(), events + 1);
        Check.isSame("its event", Pair.event(x, 0), pair.event(4, 7));
        Check.is("saved all the same", x.savedStates(), Math.min(6, states + 1));
    }

    /** "The whole operation is refused; only the refusal is counted for the account that refuses, and logged." */
    private static void refusedCreateChangesNothing(int reason) {
        Story x = refusing(reason);
        isRefusal(x, reason, () -> x.create(2, 1, 1, 0, 1));
    }

    private static void refusedMoveChangesNothing(int reason) {
        Story x = refusing(reason);
        x.create(0, 0, 1, 0, 1);
        isRefusal(x, reason, () -> x.move(1, 0, 2, 1));
    }

    /** "The grace periods do not change": the user's would start, but the group refuses. */
    private static void refusedByTheGroupStartsNothing() {
        Story x = checked();
        x.setLimits(2, 0, 4, 0);
        x.setLimits(2, 1, 2, 0);
        x.setLimits(7, 0, 0, 4);
        x.nextDays(7);
        isRefusal(x, 5, () -> x.create(2, 1, 1, 0, 1));
        isRefusalAgain(x, 5, () -> x.resize(0, 0, 5));
        Check.is("none runs", x.runningGraces(), 0);
    }

    private static void isRefusalAgain(Story x, int reason, Check.Call call) {
        String before = Picture.ofFilesAndGraces(x);
        Check.is("the reason", call.answer(), reason);
        Check.isSame("nothing changes", Picture.ofFilesAndGraces(x), before);
        Check.is("counted once more", x.refusals(CHECKED[(reason - 1) / 2].account), 2);
    }

    /** And that of the present owner would be cleared, but the new one refuses. */
    private static void refusedMoveClearsNothing() {
        Story x = checked();
        x.create(0, 0, 1, 0, 9);
        x.setLimits(0, 0, 8, 0);
        x.setLimits(6, 0, 8, 0);
        x.setLimits(2, 0, 0, 12);
        x.nextDays(7);
        Check.is("two run", x.runningGraces(), 2);
        isRefusal(x, 1, () -> x.move(1, 0, 2, 1));
        Check.is("two still run", x.runningGraces(), 2);
        x.setLimits(2, 0, 0, 13);
        Check.is("not refused", x.move(1, 0, 2, 1), 0);
        Check.is("none runs", x.runningGraces(), 0);
    }
}
