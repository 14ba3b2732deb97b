/** Term 8 and the promises 15 to 17 at their boundaries: what is saved and brought back, and what is not. */
public final class StateTermsTest {
    private interface Call {
        int on(Story x);
    }

    private static final String[] NAMES = {"create", "resize", "delete", "move", "setLimits", "setGrace",
        "restartGrace", "setExempt", "nextDays", "runText", "restore", "create, refused", "resize, refused",
        "move, refused"};
    private static final Call[] CALLS = {x -> x.create(3, 2, 4, 4, 4), x -> x.resize(0, 0, 4), x -> x.delete(0, 0),
        x -> x.move(0, 0, 2, 2), x -> x.setLimits(1, 0, 3, 3), x -> x.setGrace(0, 6), x -> x.restartGrace(1, 0),
        x -> x.setExempt(0, true), x -> x.nextDays(1), x -> x.runText(), x -> x.restore(1),
        x -> x.create(1, 0, 4, 4, 4), x -> x.resize(0, 0, 6), x -> x.move(0, 2, 1, 0)};
    private static final int[] ANSWERS = {0, 0, 5, 0, 10, 7, 2, 2, 0, 2, 9, 2, 2, 2};

    public static void main(String[] args) {
        for (int i = 0; i < CALLS.length; i++) {
            savesTheStateBeforeIt(i);
            restoredAfterIt(i);
        }
        savedEvenIfNothingChanges();
        otherCallsSaveNothing();
        for (int calls = 1; calls <= 9; calls++) {
            atMostSixStates(calls);
        }
        savedAnewBehindAnUndo();
        theWholeLogIsPart();
        theTextIsNoPart();
        theSavedStatesAreNoPart();
        theSlotsAreNoPart();
        aSlotIsReplaced();
        aSlotKeepsItsCopy();
        Check.end();
    }

    /**
     * Four states are saved; user 1 is above his soft limit for BLOCKS since the day 2, and his grace period is over.
     */
    private static Story ready() {
        Story x = new Story();
        Texts.run(x, "c1,1,0,0,5;c1,1,0,1,5;c2,2,0,2,9;n2");
        x.setLimits(1, 0, 4, 40);
        x.nextDays(7);
        x.save(1);
        x.setExempt(5, true);
        Texts.put(x, "n3;d0,1");
        return x;
    }

    /**
     * A method that is marked "Undoable" "saves the state as it was before the call", "also if the operation is
     * refused".
     */
    private static void savesTheStateBeforeIt(int i) {
        Story x = ready();
        String before = Picture.ofState(x);
        Check.is(NAMES[i], CALLS[i].on(x), ANSWERS[i]);
        Check.is(NAMES[i] + " changes something", Picture.ofState(x).equals(before), false);
        Check.is(NAMES[i] + " saves one state", x.savedStates(), 5);
        Check.is(NAMES[i] + ", the states that remain", x.undo(), 4);
        Check.is(NAMES[i] + " is removed from the saved states", x.savedStates(), 4);
        Check.isSame(NAMES[i] + " is undone", Picture.ofState(x), before);
    }

    /** Promise 16: "copies the state into a slot"; promise 17: "replaces the state by the one in a slot". */
    private static void restoredAfterIt(int i) {
        Story x = ready();
        String before = Picture.of(x);
        Check.is("save answers the day", x.save(0), 9);
        Check.isSame("save changes nothing", Picture.of(x), before);
        before = Picture.ofState(x);
        CALLS[i].on(x);
        String after = Picture.ofState(x);
        Check.is("restore answers the day", x.restore(0), 9);
        Check.is("restore saves one state", x.savedStates(), 6);
        Check.isSame(NAMES[i] + " is gone", Picture.ofState(x), before);
        Check.is("five remain", x.undo(), 5);
        Check.isSame(NAMES[i] + " is back", Picture.ofState(x), after);
    }

    /** "It is saved even if the call changes nothing." */
    private static void savedEvenIfNothingChanges() {
        String[] names = {"resize", "move", "setLimits", "setGrace", "restartGrace", "setExempt", "runText", "restore"};
        Call[] calls = {x -> x.resize(0, 0, 5), x -> x.move(0, 0, 1, 1), x -> x.setLimits(1, 0, 4, 40),
            x -> x.setGrace(0, 7), x -> x.restartGrace(1, 0), x -> x.setExempt(4, false), x -> x.runText(),
            x -> x.restore(0)};
        for (int i = 0; i < calls.length; i++) {
            Story x = ready();
            x.restartGrace(1, 0);
            x.save(0);
            Texts.put(x, "d9,9;n1");
            String before = Picture.ofState(x);
            calls[i].on(x);
            Check.isSame(names[i] + " changes nothing", Picture.ofState(x), before);
            Check.is(names[i] + " saves a state", x.savedStates(), 6);
        }
    }

    /** The methods that are not marked "Undoable". */
    private static void otherCallsSaveNothing() {
        Call[] calls = {x -> x.save(0), x -> x.appendText('n'), x -> x.clearText(), x -> x.errorPosition(),
            x -> x.usage(1, 0), x -> x.scannedUsage(1, 0), x -> x.softLimit(1, 0), x -> x.hardLimit(1, 0),
            x -> x.graceStart(1, 0), x -> x.graceLeft(1, 0), x -> x.available(1, 0), x -> x.refusals(1),
            x -> x.fewestDeletions(1), x -> x.sizeOf(0, 0), x -> x.ownerOf(0, 0), x -> x.groupOf(0, 0),
            x -> x.fileCount(), x -> x.directorySize(0), x -> x.largestFile(1), x -> x.ifCreated(1, 1, 1),
            x -> x.ifCreated(0, 0, 1), x -> x.refusedOnDay(1, 1, 1), x -> x.refusedOnDay(0, 0, 1), x -> x.day(),
            x -> x.graceLength(0), x -> x.isExempt(5) ? 1 : 0, x -> x.runningGraces(), x -> x.overGraces(),
            x -> x.event(0, 0), x -> x.eventCount(), x -> x.savedStates(), x -> x.textLength()};
        for (int i = 0; i < calls.length; i++) {
            Story x = ready();
            String before = Picture.ofState(x);
            calls[i].on(x);
            Check.is("the call " + i + " saves nothing", x.savedStates(), 4);
            Check.isSame("the call " + i + " changes nothing of the state", Picture.ofState(x), before);
        }
    }

    /** "At most 6 states are saved; when a seventh state is saved, the oldest saved state is discarded." */
    private static void atMostSixStates(int calls) {
        Story x = new Story();
        for (int i = 0; i < calls; i++) {
            x.nextDays(1);
        }
        int saved = Math.min(calls, 6);
        Check.is("saved by " + calls, x.savedStates(), saved);
        for (int i = 1; i <= saved; i++) {
            Check.is("undo " + i + " of " + calls, x.undo(), saved - i);
            Check.is("the day", x.day(), calls - i);
        }
        Check.isRefused("one undo more", Check.STATE, x, () -> x.undo());
    }

    private static void savedAnewBehindAnUndo() {
        Story x = new Story();
        for (int i = 0; i < 7; i++) {
            x.nextDays(1);
        }
        x.undo();
        Check.is("five and one", x.nextDays(10) + x.savedStates(), 6);
        Check.is("six and one", x.nextDays(10) + x.savedStates(), 6);
        int[] days = {16, 6, 5, 4, 3, 2};
        for (int i = 0; i < days.length; i++) {
            Check.is("undo", x.undo(), 5 - i);
            Check.is("the day", x.day(), days[i]);
        }
        Check.isThrown("one undo more", Check.STATE, () -> x.undo());
    }

    /** "Everything in sections 1 to 6": the log, too, when twelve events of another kind stood in its place. */
    private static void theWholeLogIsPart() {
        Story x = new Story();
        x.create(0, 0, 0, 0, 2);
        x.setLimits(0, 1, 0, 1);
        Texts.put(x, "c0,0,9,9,9;c0,0,9,9,9;c0,0,9,9,9;c0,0,9,9,9;c0,0,9,9,9;c0,0,9,9,9;c0,0,9,9,9");
        x.nextDays(1);
        x.runText();
        for (int account = 0; account < 9; account++) {
            x.create(1 + account % 5, account % 3, 5, account, 2);
            x.setLimits(account, 0, 1, 0);
        }
        x.runText();
        x.runText();
        String before = Picture.ofState(x);
        Check.isSame("the latest is a refusal", Pair.event(x, 0), "4 0 1 1");
        Check.isSame("the oldest is a refusal", Pair.event(x, 11), "4 0 1 1");
        x.save(0);
        x.setLimits(0, 1, 0, 0);
        endAllTwice(x);
        x.restore(0);
        Check.isSame("restored", Picture.ofState(x), before);
        Texts.put(x, "n7;d0,0;d5,0;d5,1;d5,2;d5,3;d5,4;d5,5;d5,6;d5,7;d5,8");
        Check.is("one call with more than twelve events", x.runText(), 11);
        Check.is("none of the old ones is left", x.event(11, 0) == 4, false);
        x.undo();
        Check.isSame("undone", Picture.ofState(x), before);
    }

    private static void endAllTwice(Story x) {
        x.nextDays(7);
        for (int account = 0; account < 9; account++) {
            x.restartGrace(account, 0);
        }
        x.nextDays(7);
        for (int index = 0; index < 12; index++) {
            Check.is("a grace period ends", x.event(index, 0), 3);
        }
    }

    /** "The text buffer is not part of the state." */
    private static void theTextIsNoPart() {
        Story x = new Story();
        Texts.put(x, "n1");
        x.save(0);
        x.nextDays(1);
        x.appendText('x');
        x.undo();
        Check.is("undo leaves the text", x.textLength() * 10 + x.errorPosition(), 32);
        x.restore(0);
        Check.is("restore leaves the text", x.textLength() * 10 + x.errorPosition(), 32);
        x.clearText();
        x.undo();
        Check.is("undo leaves no text", x.textLength(), 0);
        x.restore(0);
        Check.is("restore leaves no text", x.textLength(), 0);
    }

    /** "The saved states are not part of the state." */
    private static void theSavedStatesAreNoPart() {
        Story x = new Story();
        x.nextDays(1);
        x.save(0);
        x.nextDays(1);
        x.nextDays(1);
        x.restore(0);
        Check.is("restore adds one", x.savedStates(), 4);
        int[] days = {3, 2, 1, 0};
        for (int i = 0; i < 4; i++) {
            Check.is("undo", x.undo(), 3 - i);
            Check.is("the day", x.day(), days[i]);
        }
    }

    /** "The slots are not part of the state." */
    private static void theSlotsAreNoPart() {
        Story x = new Story();
        x.save(0);
        x.nextDays(3);
        x.save(0);
        x.save(1);
        x.undo();
        Check.is("the first day", x.day(), 0);
        Check.is("undo leaves the slot 0", x.restore(0), 3);
        x.undo();
        Check.is("undo leaves the slot 1", x.restore(1), 3);
        x.nextDays(2);
        x.save(1);
        Check.is("restore of the slot 0", x.restore(0), 3);
        Check.is("leaves the slot 1", x.restore(1), 5);
        Check.is("and the slot 0", x.restore(0), 3);
    }

    /** Promise 16: "replaces what the slot held." */
    private static void aSlotIsReplaced() {
        for (int slot = 0; slot < 2; slot++) {
            Story x = new Story();
            x.nextDays(1);
            Check.is("save", x.save(slot), 1);
            Check.is("save in the other", x.save(1 - slot), 1);
            x.nextDays(1);
            Check.is("save again", x.save(slot), 2);
            x.nextDays(1);
            Check.is("the later one", x.restore(slot), 2);
            Check.is("its day", x.day(), 2);
            Check.is("the other is the same", x.restore(1 - slot), 1);
        }
    }

    /** Promise 17: "the slot keeps its copy." */
    private static void aSlotKeepsItsCopy() {
        for (int i = 0; i < CALLS.length; i++) {
            Story x = ready();
            x.save(0);
            String before = Picture.ofState(x);
            x.restore(0);
            CALLS[i].on(x);
            x.restore(0);
            Check.isSame("after " + NAMES[i], Picture.ofState(x), before);
        }
    }
}
