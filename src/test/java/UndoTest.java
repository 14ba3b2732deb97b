/** Promises 15 to 17: undo, save, restore. */
public final class UndoTest {
    public static void main(String[] args) {
        everythingIsUndone();
        theWholeLogIsUndone();
        undoOrder();
        sixStates();
        saveAndRestore();
        slotsKeepTheirCopies();
        Check.end();
    }

    private static Story busy() {
        Story x = new Story();
        x.setLimits(1, 0, 5, 50);
        x.setLimits(7, 1, 1, 3);
        x.create(1, 1, 2, 3, 10);
        x.create(2, 1, 2, 4, 20);
        x.nextDays(8);
        x.create(2, 1, 2, 5, 20);
        x.setExempt(4, true);
        return x;
    }

    private static void everythingIsUndone() {
        Check.Call[] calls = new Check.Call[12];
        Story x = busy();
        Texts.put(x, "d2,3;n5;d2,3");
        calls[0] = () -> x.create(3, 0, 0, 0, 7);
        calls[1] = () -> x.create(1, 1, 0, 0, 7);
        calls[2] = () -> x.resize(2, 3, 4);
        calls[3] = () -> x.delete(2, 3);
        calls[4] = () -> x.move(2, 3, 5, 2);
        calls[5] = () -> x.setLimits(2, 0, 1, 2);
        calls[6] = () -> x.setGrace(1, 30);
        calls[7] = () -> x.restartGrace(1, 0);
        calls[8] = () -> x.setExempt(4, false);
        calls[9] = () -> x.nextDays(100);
        calls[10] = () -> x.runText();
        calls[11] = () -> x.restore(0);
        x.save(0);
        x.delete(2, 4);
        for (int i = 0; i < calls.length; i++) {
            String before = Picture.ofState(x);
            calls[i].answer();
            Check.is("the call " + i + " changes something", Picture.ofState(x).equals(before), false);
            Check.is("six are saved", x.savedStates(), 6);
            Check.is("five remain", x.undo(), 5);
            Check.is("as savedStates tells", x.savedStates(), 5);
            Check.isSame("the call " + i + " is undone", Picture.ofState(x), before);
            x.setGrace(0, 7);
        }
        Check.is("the text stays", x.textLength(), 12);
    }

    /** So many other events come between that none of the old ones is left where it was. */
    private static void theWholeLogIsUndone() {
        Story x = busy();
        x.create(1, 1, 0, 0, 50);
        x.save(0);
        String before = Picture.ofState(x);
        Texts.put(x, "c0,0,5,5,5;r5,5,6;r5,5,7;r5,5,8;r5,5,9;r5,5,10;r5,5,11;r5,5,12;n1;r5,5,13;r5,5,14;r5,5,15");
        x.setLimits(0, 0, 0, 5);
        x.runText();
        x.runText();
        for (int i = 10; i < 20; i++) {
            x.resize(5, 5, i);
        }
        Check.is("the old events are gone", x.event(11, 1), 0);
        x.restore(0);
        Check.isSame("restored", Picture.ofState(x), before);
        x.setLimits(0, 0, 0, 4);
        x.runText();
        x.clearText();
        Texts.put(x, "c0,0,5,5,5;c0,0,5,6,6;c0,0,5,7,7;c0,0,5,8,8;c0,0,5,9,9;c0,0,5,10,10;c0,0,5,11,11");
        x.runText();
        x.runText();
        Check.is("they are gone again", x.event(11, 1), 0);
        x.undo();
        x.undo();
        x.undo();
        x.undo();
        Check.isSame("undone", Picture.ofState(x), before);
    }

    private static void undoOrder() {
        Story x = new Story();
        x.nextDays(1);
        x.nextDays(2);
        x.nextDays(4);
        Check.is("two remain", x.undo(), 2);
        Check.is("the day before the last call", x.day(), 3);
        Check.is("one remains", x.undo(), 1);
        Check.is("the day before that", x.day(), 1);
        x.nextDays(10);
        Check.is("saved anew", x.savedStates(), 2);
        Check.is("one remains again", x.undo(), 1);
        Check.is("not the undone branch", x.day(), 1);
        Check.is("none remains", x.undo(), 0);
        Check.is("the first day", x.day(), 0);
    }

    private static void sixStates() {
        Story x = new Story();
        for (int i = 1; i <= 20; i++) {
            x.nextDays(1);
            Check.is("saved", x.savedStates(), Math.min(i, 6));
        }
        for (int i = 5; i >= 0; i--) {
            Check.is("remain", x.undo(), i);
            Check.is("the day", x.day(), 14 + i);
        }
        Check.isThrown("the seventh is gone", Check.STATE, () -> x.undo());
        Check.is("the day stays", x.day(), 14);
        for (int i = 0; i < 7; i++) {
            x.nextDays(2);
        }
        x.undo();
        x.undo();
        x.nextDays(1);
        Check.is("five again", x.savedStates(), 5);
        x.nextDays(1);
        x.nextDays(1);
        Check.is("six again", x.savedStates(), 6);
        int[] due = {26, 25, 24, 22, 20, 18};
        for (int i = 0; i < 6; i++) {
            x.undo();
            Check.is("the day back", x.day(), due[i]);
        }
    }

    private static void saveAndRestore() {
        Story x = busy();
        String first = Picture.ofState(x);
        int states = x.savedStates();
        Check.is("save answers the day", x.save(1), 8);
        Check.is("save is not undoable", x.savedStates(), states);
        Check.isSame("save changes nothing", Picture.ofState(x), first);
        Check.isThrown("the other slot is empty", Check.STATE, () -> x.restore(0));
        Texts.run(x, "d2,3;n5;c0,0,0,0,0");
        x.setGrace(0, 9);
        x.setExempt(1, true);
        String second = Picture.ofState(x);
        Check.is("save answers the day then", x.save(0), 13);
        Check.is("restore answers the day", x.restore(1), 8);
        Check.isSame("the first state", Picture.ofState(x), first);
        Check.is("restore is undoable", x.savedStates(), 6);
        Check.is("the text stays", x.textLength(), 18);
        x.undo();
        Check.isSame("undone", Picture.ofState(x), second);
        Check.is("the slot keeps its copy", x.restore(1), 8);
        Check.isSame("the first state again", Picture.ofState(x), first);
        Check.is("the other slot", x.restore(0), 13);
        Check.isSame("the second state", Picture.ofState(x), second);
        Check.is("replaced", x.save(1), 13);
        x.nextDays(1);
        Check.is("by the second state", x.restore(1), 13);
        Check.isSame("which it is", Picture.ofState(x), second);
        Check.is("the undone slot stays filled", x.undo() >= 0 && x.restore(1) == 13, true);
    }

    private static void slotsKeepTheirCopies() {
        Story x = busy();
        x.save(0);
        String first = Picture.ofState(x);
        x.restore(0);
        x.delete(2, 3);
        x.nextDays(30);
        x.setLimits(1, 0, 0, 0);
        x.restore(0);
        Check.isSame("the slot is a copy", Picture.ofState(x), first);
        Story y = new Story();
        Check.is("on a new object", y.save(0), 0);
        y.nextDays(3);
        Check.is("the first day", y.restore(0), 0);
        Check.is("two are saved", y.savedStates(), 2);
    }
}
