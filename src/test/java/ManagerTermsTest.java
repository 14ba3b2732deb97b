/**
 * The promises 35 to 43 at their boundaries: the day, the numbers of grace periods, the log, the saved states, the
 * text.
 */
public final class ManagerTermsTest {
    public static void main(String[] args) {
        day();
        graceLength();
        exempt();
        runningAndOver();
        eventsBehindTheLog();
        savedStates();
        textLength();
        Check.end();
    }

    /** Term 3: "a current day, from 0 to 10000; it is 0 at first". */
    private static void day() {
        Story x = new Story();
        Check.is("the first day", x.day(), 0);
        for (int i = 1; i <= 100; i++) {
            x.nextDays(100);
            Check.is("the day", x.day(), 100 * i);
        }
        Check.isThrown("a day more", Check.STATE, () -> x.nextDays(1));
        Check.is("the last day", x.day(), 10000);
    }

    /** Promise 7: "1 to 60", "returns the previous grace length", of this resource alone. */
    private static void graceLength() {
        for (int resource = 0; resource < 2; resource++) {
            Story x = new Story();
            int[] lengths = {1, 60, 60, 1, 2, 59, 7};
            int previous = 7;
            for (int length : lengths) {
                Check.is("the previous length", x.setGrace(resource, length), previous);
                Check.is("the length", x.graceLength(resource), length);
                Check.is("the other length", x.graceLength(1 - resource), 7);
                previous = length;
            }
        }
    }

    /** Promise 9: "the number of exempt users after the call", from none to all six. */
    private static void exempt() {
        Story x = new Story();
        for (int user = 0; user < 6; user++) {
            Check.is("not exempt at first", x.isExempt(user), false);
            Check.is("not exempt still", x.setExempt(user, false), user);
            Check.is("exempt", x.setExempt(user, true), user + 1);
            Check.is("exempt twice", x.setExempt(user, true), user + 1);
            for (int other = 0; other < 6; other++) {
                Check.is("user " + other, x.isExempt(other), other <= user);
            }
        }
        for (int user = 0; user < 6; user++) {
            Check.is("no longer", x.setExempt(user, false), 5 - user);
            Check.is("no longer exempt", x.isExempt(user), false);
        }
    }

    /** Promises 38 and 39: "the number of pairs of an account and a resource", from none to all eighteen. */
    private static void runningAndOver() {
        Story x = new Story();
        Pair.twoFilesEach(x);
        Pair[] pairs = Pair.all();
        for (int i = 0; i < pairs.length; i++) {
            Check.is("running", x.runningGraces(), i);
            Check.is("over", x.overGraces(), Math.max(0, i - 6));
            pairs[i].limit(x, 1, 0);
            x.nextDays(1);
        }
        x.nextDays(5);
        Check.is("all run", x.runningGraces(), 18);
        Check.is("all but one are over", x.overGraces(), 17);
        x.nextDays(1);
        Check.is("all are over", x.overGraces(), 18);
        Check.is("all still run", x.runningGraces(), 18);
        for (int i = 0; i < pairs.length; i++) {
            pairs[i].limit(x, 0, 0);
            Check.is("still over", x.overGraces(), 17 - i);
            Check.is("still running", x.runningGraces(), 17 - i);
        }
    }

    /** Promise 40: "0 for the latest event"; "NONE if the log does not hold so many events". */
    private static void eventsBehindTheLog() {
        Story x = new Story();
        x.create(5, 2, 0, 0, 1);
        x.setLimits(5, 0, 0, 1);
        for (int events = 0; events <= 14; events++) {
            int held = Math.min(events, 12);
            Check.is("events", x.eventCount(), held);
            for (int part = 0; part < 4; part++) {
                Check.is("the first behind the log", x.event(held, part), -1);
                Check.is("the next", x.event(held + 1, part), -1);
                Check.is("the farthest", x.event(Integer.MAX_VALUE, part), -1);
            }
            if (held > 0) {
                Check.isSame("the last of the log", Pair.event(x, held - 1), "4 5 0 " + (events - held));
                Check.isSame("the latest", Pair.event(x, 0), "4 5 0 " + (events - 1));
            }
            x.resize(0, 0, 2);
            x.nextDays(1);
        }
    }

    /** Promise 42, term 8: "at most 6 states are saved". */
    private static void savedStates() {
        Story x = new Story();
        for (int i = 0; i < 10; i++) {
            Check.is("saved", x.savedStates(), Math.min(i, 6));
            x.setGrace(0, 7);
        }
        for (int left = 5; left >= 0; left--) {
            x.undo();
            Check.is("left", x.savedStates(), left);
        }
    }

    /** Promise 43, term 7: "at most 100 characters". */
    private static void textLength() {
        Story x = new Story();
        for (int i = 0; i < 100; i++) {
            Check.is("the length", x.textLength(), i);
            x.appendText(' ');
        }
        Check.isThrown("one more", Check.STATE, () -> x.appendText(' '));
        Check.is("the greatest length", x.textLength(), 100);
    }
}
