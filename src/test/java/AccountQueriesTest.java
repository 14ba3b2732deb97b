/** Promises 18 to 26: the queries about accounts. */
public final class AccountQueriesTest {
    public static void main(String[] args) {
        usages();
        limits();
        graces();
        available();
        refusals();
        fewestDeletions();
        queriesChangeNothing();
        Check.end();
    }

    private static void usages() {
        Story x = new Story();
        x.create(0, 1, 0, 0, 3);
        x.create(0, 2, 0, 1, 4);
        x.create(5, 2, 0, 2, 5);
        x.resize(0, 1, 40);
        x.move(0, 2, 0, 0);
        x.delete(0, 0);
        int[][] due = {{45, 2}, {0, 0}, {0, 0}, {0, 0}, {0, 0}, {0, 0}, {5, 1}, {0, 0}, {40, 1}};
        for (int account = 0; account < 9; account++) {
            for (int resource = 0; resource < 2; resource++) {
                Check.is("usage of " + account, x.usage(account, resource), due[account][resource]);
                Check.is("scanned usage of " + account, x.scannedUsage(account, resource), due[account][resource]);
            }
        }
        x.undo();
        Check.is("usage after undo", x.usage(7, 0), 3);
        Check.is("scanned usage after undo", x.scannedUsage(7, 0), 3);
    }

    private static void limits() {
        Story x = new Story();
        for (int account = 0; account < 9; account++) {
            x.setLimits(account, 0, 10 + account, 20 + account);
            x.setLimits(account, 1, 30 + account, 40 + account);
        }
        for (int account = 0; account < 9; account++) {
            Check.is("soft for BLOCKS", x.softLimit(account, 0), 10 + account);
            Check.is("hard for BLOCKS", x.hardLimit(account, 0), 20 + account);
            Check.is("soft for FILES", x.softLimit(account, 1), 30 + account);
            Check.is("hard for FILES", x.hardLimit(account, 1), 40 + account);
        }
    }

    private static void graces() {
        Story x = new Story();
        x.setGrace(1, 10);
        x.create(4, 0, 0, 0, 9);
        x.create(4, 0, 0, 1, 9);
        x.nextDays(5);
        x.setLimits(4, 0, 17, 0);
        x.setLimits(6, 1, 1, 0);
        Check.is("start for BLOCKS", x.graceStart(4, 0), 5);
        Check.is("start for FILES", x.graceStart(6, 1), 5);
        Check.is("no start", x.graceStart(4, 1), -1);
        Check.is("left for BLOCKS", x.graceLeft(4, 0), 7);
        Check.is("left for FILES", x.graceLeft(6, 1), 10);
        Check.is("none left", x.graceLeft(6, 0), -1);
        x.nextDays(6);
        Check.is("one day left", x.graceLeft(4, 0), 1);
        x.nextDays(1);
        Check.is("over now", x.graceLeft(4, 0), 0);
        Check.is("FILES is not over", x.graceLeft(6, 1), 3);
        x.nextDays(20);
        Check.is("over for long", x.graceLeft(4, 0), 0);
        Check.is("still running", x.graceStart(4, 0), 5);
        x.resize(0, 0, 8);
        Check.is("cleared", x.graceStart(4, 0), -1);
        Check.is("none left then", x.graceLeft(4, 0), -1);
    }

    private static void available() {
        Story x = new Story();
        x.create(0, 0, 0, 0, 10);
        Check.is("no limit", x.available(0, 0), -2);
        x.setLimits(0, 0, 20, 0);
        Check.is("a soft limit", x.available(0, 0), -2);
        x.setLimits(0, 0, 5, 0);
        Check.is("a running grace period", x.available(0, 0), -2);
        x.setLimits(0, 0, 5, 30);
        Check.is("a hard limit", x.available(0, 0), 20);
        x.setLimits(0, 0, 5, 10);
        Check.is("at the hard limit", x.available(0, 0), 0);
        x.setLimits(0, 0, 5, 9);
        Check.is("above the hard limit", x.available(0, 0), 0);
        x.setLimits(0, 0, 5, 30);
        x.nextDays(7);
        Check.is("over with a hard limit", x.available(0, 0), 0);
        x.setLimits(0, 0, 5, 0);
        Check.is("over without a hard limit", x.available(0, 0), 0);
        x.setLimits(1, 0, 0, 1);
        Check.is("the least hard limit", x.available(1, 0), 1);
        x.setLimits(0, 0, 0, 100000);
        Check.is("the greatest hard limit", x.available(0, 0), 99990);
        x.setExempt(0, true);
        Check.is("without exemptions", x.available(0, 0), 99990);
        Check.is("the resource FILES", x.available(0, 1), -2);
        x.setLimits(6, 1, 0, 3);
        Check.is("files of the group", x.available(6, 1), 2);
    }

    private static void refusals() {
        Story x = new Story();
        x.setLimits(3, 0, 0, 5);
        x.setLimits(3, 1, 0, 1);
        x.create(3, 0, 0, 0, 6);
        x.create(3, 0, 0, 0, 5);
        x.create(3, 0, 0, 1, 0);
        Check.is("both resources", x.refusals(3), 2);
        Check.is("not the group", x.refusals(6), 0);
        x.ifCreated(3, 0, 6);
        x.refusedOnDay(3, 0, 6);
        Check.is("questions are not counted", x.refusals(3), 2);
        x.undo();
        Check.is("undone", x.refusals(3), 1);
        x.save(0);
        x.create(3, 0, 0, 1, 0);
        x.restore(0);
        Check.is("restored", x.refusals(3), 1);
        for (int i = 0; i < 30; i++) {
            x.create(3, 0, 0, 1, 0);
        }
        Check.is("more than the log holds", x.refusals(3), 31);
    }

    private static void fewestDeletions() {
        Story x = new Story();
        int[] sizes = {10, 3, 40, 3, 0, 25};
        for (int i = 0; i < sizes.length; i++) {
            x.create(1, 2, i, i, sizes[i]);
        }
        x.create(2, 2, 7, 7, 100);
        x.create(1, 0, 8, 8, 1);
        Check.is("no soft limit", x.fewestDeletions(1), 0);
        int[][] due = {{82, 0}, {81, 1}, {42, 1}, {41, 2}, {17, 2}, {16, 3}, {7, 3}, {6, 4}, {4, 4}, {3, 5}, {1, 5},
            {100000, 0}};
        for (int[] d : due) {
            x.setLimits(1, 0, d[0], 0);
            Check.is("soft limit " + d[0], x.fewestDeletions(1), d[1]);
        }
        x.setLimits(1, 0, 0, 5);
        Check.is("a hard limit does not count", x.fewestDeletions(1), 0);
        x.setLimits(1, 1, 1, 0);
        Check.is("the limit for FILES does not count", x.fewestDeletions(1), 0);
        x.setLimits(8, 0, 80, 0);
        Check.is("of a group", x.fewestDeletions(8), 2);
        x.setLimits(8, 0, 81, 0);
        Check.is("of a group, one", x.fewestDeletions(8), 1);
        Check.is("the files stay", x.fileCount(), 8);
        Story z = new Story();
        z.create(0, 0, 0, 0, 3);
        z.create(0, 0, 0, 1, 4);
        z.create(0, 0, 0, 2, 100);
        z.delete(0, 2);
        z.setLimits(0, 0, 2, 0);
        Check.is("a deleted file does not count", z.fewestDeletions(0), 2);
        Story y = new Story();
        for (int i = 0; i < 60; i++) {
            y.create(0, 0, 0, i, 1);
        }
        y.setLimits(0, 0, 1, 0);
        Check.is("all but one of sixty", y.fewestDeletions(0), 59);
        Check.is("and again", y.fewestDeletions(0), 59);
    }

    private static void queriesChangeNothing() {
        Story x = new Story();
        x.setLimits(0, 0, 5, 9);
        x.create(0, 0, 0, 0, 6);
        x.create(0, 0, 0, 1, 6);
        x.save(0);
        String before = Picture.of(x);
        x.refusedOnDay(0, 0, 1);
        x.refusedOnDay(1, 1, 5000);
        x.ifCreated(0, 0, 5000);
        x.fewestDeletions(0);
        Check.isSame("queries change nothing", Picture.of(x), before);
    }
}
