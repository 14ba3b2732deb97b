/** Promises 35 to 43: the queries about the whole manager. */
public final class ManagerQueriesTest {
    public static void main(String[] args) {
        day();
        graceLength();
        isExempt();
        graces();
        events();
        savedStatesAndText();
        Check.end();
    }

    private static void day() {
        Story x = new Story();
        x.nextDays(100);
        x.nextDays(3);
        Check.is("the day", x.day(), 103);
    }

    private static void graceLength() {
        Story x = new Story();
        x.setGrace(0, 1);
        x.setGrace(1, 60);
        Check.is("of BLOCKS", x.graceLength(0), 1);
        Check.is("of FILES", x.graceLength(1), 60);
    }

    private static void isExempt() {
        Story x = new Story();
        x.setExempt(2, true);
        x.setExempt(5, true);
        for (int user = 0; user < 6; user++) {
            Check.is("user " + user, x.isExempt(user), user == 2 || user == 5);
        }
    }

    private static void graces() {
        Story x = new Story();
        x.create(0, 0, 0, 0, 5);
        x.create(0, 0, 0, 1, 5);
        x.setLimits(0, 0, 1, 0);
        x.setLimits(0, 1, 1, 0);
        Check.is("two are running", x.runningGraces(), 2);
        Check.is("none is over", x.overGraces(), 0);
        x.nextDays(6);
        x.setLimits(6, 0, 1, 0);
        Check.is("three are running", x.runningGraces(), 3);
        Check.is("none is over yet", x.overGraces(), 0);
        x.nextDays(1);
        Check.is("two are over", x.overGraces(), 2);
        Check.is("and still running", x.runningGraces(), 3);
        x.setGrace(1, 8);
        Check.is("one is over", x.overGraces(), 1);
        x.nextDays(20);
        Check.is("all are over", x.overGraces(), 3);
        x.setLimits(0, 0, 0, 0);
        Check.is("two are left", x.overGraces(), 2);
        Check.is("two are running then", x.runningGraces(), 2);
        x.setLimits(8, 1, 1, 0);
        x.create(1, 2, 1, 0, 0);
        x.create(1, 2, 1, 1, 0);
        Check.is("the last pair counts", x.runningGraces(), 3);
    }

    private static void events() {
        Story x = new Story();
        x.setLimits(8, 1, 0, 1);
        x.create(0, 2, 0, 0, 0);
        for (int i = 1; i <= 15; i++) {
            x.nextDays(1);
            x.create(0, 2, 0, 1, 0);
            Check.is("events", x.eventCount(), Math.min(i, 12));
            Check.is("the latest is first", x.event(0, 3), i);
        }
        for (int index = 0; index < 12; index++) {
            Check.is("its kind", x.event(index, 0), 4);
            Check.is("its account", x.event(index, 1), 8);
            Check.is("its resource", x.event(index, 2), 1);
            Check.is("its day", x.event(index, 3), 15 - index);
        }
        for (int part = 0; part < 4; part++) {
            Check.is("no thirteenth", x.event(12, part), -1);
            Check.is("none far away", x.event(Integer.MAX_VALUE, part), -1);
        }
        x.undo();
        Check.is("undone", x.event(0, 3), 14);
        Check.is("also the discarded one", x.event(11, 3), 3);
        Check.is("still twelve", x.eventCount(), 12);
    }

    private static void savedStatesAndText() {
        Story x = new Story();
        x.setGrace(0, 7);
        x.setGrace(0, 7);
        Check.is("two saved states", x.savedStates(), 2);
        x.undo();
        Check.is("one saved state", x.savedStates(), 1);
        Check.is("an empty text", x.textLength(), 0);
        Texts.put(x, "n100;");
        Check.is("its length", x.textLength(), 5);
        x.undo();
        Check.is("undo does not matter", x.textLength(), 5);
    }
}
