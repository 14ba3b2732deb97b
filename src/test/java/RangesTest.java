/**
 * Every argument of every method that the document gives a range: the least and the greatest number are taken, the
 * numbers beside them and far from them are not, and a call with one of those changes nothing.
 */
public final class RangesTest {
    private interface Asked {
        int answer(Story x, int number);
    }

    private interface PairAsked {
        int answer(Story x, int account, int resource);
    }

    private interface PlaceAsked {
        int answer(Story x, int directory, int name);
    }

    public static void main(String[] args) {
        create();
        resize();
        delete();
        move();
        setLimits();
        setGrace();
        restartGrace();
        setExempt();
        nextDays();
        appendText();
        slots();
        pairQueries();
        accountQueries();
        placeQueries();
        ifCreated();
        refusedOnDay();
        managerQueries();
        event();
        Check.end();
    }

    /** Files, grace periods and slots at all ends, so that a call with numbers in range has what it asks for. */
    private static Story ready() {
        Story x = new Story();
        int[][] places = {{0, 1}, {9, 1}, {1, 0}, {1, 99}};
        for (int[] place : places) {
            x.create(0, 2, place[0], place[1], 2);
        }
        for (int account : new int[] {0, 8}) {
            x.setLimits(account, 0, 1, 0);
            x.setLimits(account, 1, 1, 0);
        }
        x.save(0);
        x.save(1);
        x.appendText('n');
        return x;
    }

    private static void indexes(String what, int greatest, Asked call) {
        range(what, Check.INDEX, 0, greatest, call);
    }

    private static void range(String what, Class<? extends RuntimeException> due, int least, int greatest,
            Asked call) {
        for (int number : new int[] {least, greatest}) {
            Story x = ready();
            Check.isTaken(what + " " + number, () -> call.answer(x, number));
        }
        // The sums would come back into the range if a number were cut to 16 bits, and the last number's hundredfold
        // to that of a directory in 32 bits.
        int[] outside = {least - 1, greatest + 1, Integer.MIN_VALUE, Integer.MAX_VALUE, least + 0x10000000,
            least - 0x10000000, 42949673};
        for (int number : outside) {
            Story x = ready();
            Check.isRefused(what + " " + number, due, x, () -> call.answer(x, number));
        }
    }

    private static void create() {
        indexes("create, user", 5, (x, n) -> x.create(n, 0, 0, 0, 0));
        indexes("create, group", 2, (x, n) -> x.create(0, n, 0, 0, 0));
        indexes("create, directory", 9, (x, n) -> x.create(0, 0, n, 50, 0));
        indexes("create, name", 99, (x, n) -> x.create(0, 0, 5, n, 0));
        range("create, blocks", Check.ARGUMENT, 0, 5000, (x, n) -> x.create(0, 0, 0, 0, n));
    }

    private static void resize() {
        indexes("resize, directory", 9, (x, n) -> x.resize(n, 1, 0));
        indexes("resize, name", 99, (x, n) -> x.resize(1, n, 0));
        range("resize, blocks", Check.ARGUMENT, 0, 5000, (x, n) -> x.resize(0, 1, n));
    }

    private static void delete() {
        indexes("delete, directory", 9, (x, n) -> x.delete(n, 1));
        indexes("delete, name", 99, (x, n) -> x.delete(1, n));
    }

    private static void move() {
        indexes("move, directory", 9, (x, n) -> x.move(n, 1, 1, 1));
        indexes("move, name", 99, (x, n) -> x.move(1, n, 1, 1));
        indexes("move, user", 5, (x, n) -> x.move(0, 1, n, 1));
        indexes("move, group", 2, (x, n) -> x.move(0, 1, 1, n));
    }

    private static void setLimits() {
        indexes("setLimits, account", 8, (x, n) -> x.setLimits(n, 0, 1, 2));
        indexes("setLimits, resource", 1, (x, n) -> x.setLimits(0, n, 1, 2));
        range("setLimits, soft", Check.ARGUMENT, 0, 100000, (x, n) -> x.setLimits(0, 0, n, 0));
        range("setLimits, hard", Check.ARGUMENT, 0, 100000, (x, n) -> x.setLimits(0, 0, 0, n));
    }

    private static void setGrace() {
        indexes("setGrace, resource", 1, (x, n) -> x.setGrace(n, 9));
        range("setGrace, days", Check.ARGUMENT, 1, 60, (x, n) -> x.setGrace(0, n));
    }

    private static void restartGrace() {
        indexes("restartGrace, account", 8, (x, n) -> x.restartGrace(n, 0));
        indexes("restartGrace, resource", 1, (x, n) -> x.restartGrace(0, n));
    }

    private static void setExempt() {
        indexes("setExempt, user, true", 5, (x, n) -> x.setExempt(n, true));
        indexes("setExempt, user, false", 5, (x, n) -> x.setExempt(n, false));
    }

    private static void nextDays() {
        range("nextDays, days", Check.ARGUMENT, 1, 100, (x, n) -> x.nextDays(n));
    }

    private static void appendText() {
        range("appendText, character", Check.ARGUMENT, 32, 126, (x, n) -> x.appendText(n));
    }

    private static void slots() {
        indexes("save, slot", 1, (x, n) -> x.save(n));
        indexes("restore, slot", 1, (x, n) -> x.restore(n));
    }

    private static void pairQueries() {
        PairAsked[] calls = {(x, a, r) -> x.usage(a, r), (x, a, r) -> x.scannedUsage(a, r),
            (x, a, r) -> x.softLimit(a, r), (x, a, r) -> x.hardLimit(a, r), (x, a, r) -> x.graceStart(a, r),
            (x, a, r) -> x.graceLeft(a, r), (x, a, r) -> x.available(a, r)};
        String[] names = {"usage", "scannedUsage", "softLimit", "hardLimit", "graceStart", "graceLeft", "available"};
        for (int i = 0; i < calls.length; i++) {
            PairAsked call = calls[i];
            indexes(names[i] + ", account, BLOCKS", 8, (x, n) -> call.answer(x, n, 0));
            indexes(names[i] + ", account, FILES", 8, (x, n) -> call.answer(x, n, 1));
            indexes(names[i] + ", resource, first account", 1, (x, n) -> call.answer(x, 0, n));
            indexes(names[i] + ", resource, last account", 1, (x, n) -> call.answer(x, 8, n));
        }
    }

    private static void accountQueries() {
        indexes("refusals, account", 8, (x, n) -> x.refusals(n));
        indexes("fewestDeletions, account", 8, (x, n) -> x.fewestDeletions(n));
        indexes("largestFile, account", 8, (x, n) -> x.largestFile(n));
    }

    private static void placeQueries() {
        PlaceAsked[] calls = {(x, d, n) -> x.sizeOf(d, n), (x, d, n) -> x.ownerOf(d, n), (x, d, n) -> x.groupOf(d, n)};
        String[] names = {"sizeOf", "ownerOf", "groupOf"};
        for (int i = 0; i < calls.length; i++) {
            PlaceAsked call = calls[i];
            indexes(names[i] + ", directory", 9, (x, n) -> call.answer(x, n, 1));
            indexes(names[i] + ", name", 99, (x, n) -> call.answer(x, 1, n));
        }
        indexes("directorySize, directory", 9, (x, n) -> x.directorySize(n));
    }

    private static void ifCreated() {
        indexes("ifCreated, user", 5, (x, n) -> x.ifCreated(n, 0, 0));
        indexes("ifCreated, group", 2, (x, n) -> x.ifCreated(0, n, 0));
        range("ifCreated, blocks", Check.ARGUMENT, 0, 5000, (x, n) -> x.ifCreated(0, 0, n));
    }

    private static void refusedOnDay() {
        indexes("refusedOnDay, user", 5, (x, n) -> x.refusedOnDay(n, 0, 1));
        indexes("refusedOnDay, group", 2, (x, n) -> x.refusedOnDay(0, n, 1));
        range("refusedOnDay, blocks", Check.ARGUMENT, 1, 5000, (x, n) -> x.refusedOnDay(0, 0, n));
    }

    private static void managerQueries() {
        indexes("graceLength, resource", 1, (x, n) -> x.graceLength(n));
        indexes("isExempt, user", 5, (x, n) -> x.isExempt(n) ? 1 : 0);
    }

    /** The index has no greatest number: behind the log the answer is NONE. */
    private static void event() {
        for (int index : new int[] {0, 11, 12, Integer.MAX_VALUE}) {
            Story x = ready();
            Check.isTaken("event, index " + index, () -> x.event(index, 0));
        }
        for (int index : new int[] {-1, Integer.MIN_VALUE}) {
            Story x = ready();
            Check.isRefused("event, index " + index, Check.INDEX, x, () -> x.event(index, 0));
        }
        range("event, part", Check.ARGUMENT, 0, 3, (x, n) -> x.event(0, n));
        range("event, part, behind the log", Check.ARGUMENT, 0, 3, (x, n) -> x.event(12, n));
    }
}
