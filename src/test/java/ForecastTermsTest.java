/** Promise 34 at its boundaries: the day on which steady growth is refused. */
public final class ForecastTermsTest {
    public static void main(String[] args) {
        for (int account : new int[] {2, 7}) {
            hardLimit(account);
            firstDay(account);
            gracePeriod(account);
            startsAboveTheSoftLimit(account);
            runningGracePeriod(account);
            filesDoNotMatter(account);
            theDayDoesNotMatter(account);
        }
        theSizeDoesNotMatter();
        theEarlierAccountDecides();
        hardLimitDuringAGracePeriod();
        exemptUsers();
        exemptForEachReason();
        asTheDaysTell();
        otherAccountsDoNotMatter();
        Check.end();
    }

    /** "The number n of the first day, 1 to 400; NONE if none of the first 400 days is such a day." */
    private static void hardLimit(int account) {
        int[][] rows = {{1, 0, -1}, {5000, 0, -1}, {1, 1, 2}, {1, 2, 3}, {1, 398, 399}, {1, 399, 400}, {1, 400, -1},
            {250, 99999, 400}, {250, 100000, -1}, {5000, 100000, 21}, {5000, 99999, 20}, {5000, 5000, 2},
            {5000, 4999, 1}};
        for (int[] r : rows) {
            Story x = new Story();
            x.setLimits(account, 0, 0, r[1]);
            Check.is(r[0] + " blocks a day, hard limit " + r[1], x.refusedOnDay(2, 1, r[0]), r[2]);
        }
    }

    /** "On the first day from now on, that is, after one call nextDays(1)." */
    private static void firstDay(int account) {
        Story x = new Story();
        x.create(2, 1, 0, 0, 4);
        x.setLimits(account, 0, 0, 10);
        Check.is("to the limit on the first day", x.refusedOnDay(2, 1, 6), 2);
        Check.is("above it on the first day", x.refusedOnDay(2, 1, 7), 1);
        x.setLimits(account, 0, 0, 4);
        Check.is("at the limit", x.refusedOnDay(2, 1, 1), 1);
        x.setLimits(account, 0, 0, 3);
        Check.is("above the limit", x.refusedOnDay(2, 1, 1), 1);
    }

    /**
     * "Checked and reviewed like the resizing of a file": on the day n the usage is n, so the start day is soft + 1.
     */
    private static void gracePeriod(int account) {
        int[][] rows = {{60, 339, 400}, {60, 340, -1}, {60, 1, 62}, {7, 392, 400}, {7, 393, -1}, {7, 1, 9},
            {1, 398, 400}, {1, 399, -1}, {1, 400, -1}, {1, 1, 3}};
        for (int[] r : rows) {
            Story x = new Story();
            x.setGrace(0, r[0]);
            x.setGrace(1, r[0] == 60 ? 1 : 60);
            x.setLimits(account, 0, r[1], 0);
            Check.is("grace length " + r[0] + ", soft limit " + r[1], x.refusedOnDay(2, 1, 1), r[2]);
        }
    }

    private static void startsAboveTheSoftLimit(int account) {
        Story x = new Story();
        x.setLimits(account, 0, 10, 0);
        Check.is("at the soft limit on the first day", x.refusedOnDay(2, 1, 10), 9);
        Check.is("above it on the first day", x.refusedOnDay(2, 1, 11), 8);
        x.create(2, 1, 0, 0, 10);
        Check.is("at the soft limit now", x.refusedOnDay(2, 1, 1), 8);
        x.resize(0, 0, 11);
        Check.is("above it now", x.refusedOnDay(2, 1, 1), 7);
    }

    private static void runningGracePeriod(int account) {
        Story x = new Story();
        x.create(2, 1, 0, 0, 2);
        x.setLimits(account, 0, 1, 0);
        for (int day = 0; day <= 9; day++) {
            Check.is("started " + day + " days ago", x.refusedOnDay(2, 1, 1), Math.max(1, 7 - day));
            x.nextDays(1);
        }
        x.setGrace(0, 12);
        Check.is("two days more", x.refusedOnDay(2, 1, 1), 2);
        x.setGrace(0, 11);
        Check.is("one day more", x.refusedOnDay(2, 1, 1), 1);
        x.restartGrace(account, 0);
        Check.is("restarted", x.refusedOnDay(2, 1, 1), 11);
    }

    /** "One operation that increases the usage for BLOCKS." */
    private static void filesDoNotMatter(int account) {
        Story x = new Story();
        x.create(2, 1, 0, 0, 0);
        x.create(2, 1, 0, 1, 0);
        x.setLimits(account, 1, 1, 1);
        x.nextDays(7);
        Check.is("over for FILES", x.overGraces(), 1);
        Check.is("no file more", x.refusedOnDay(2, 1, 5000), -1);
    }

    /** "The limit of the current day does not matter." */
    private static void theDayDoesNotMatter(int account) {
        for (int today : new int[] {9600, 9601, 9998, 9999, 10000}) {
            Story x = new Story();
            for (int left = today; left > 0; left -= 100) {
                x.nextDays(Math.min(left, 100));
            }
            x.setLimits(account, 0, 0, 399);
            Check.is("a hard limit", x.refusedOnDay(2, 1, 1), 400);
            x.setLimits(account, 0, 0, 400);
            Check.is("a higher one", x.refusedOnDay(2, 1, 1), -1);
            x.setLimits(account, 0, 392, 0);
            Check.is("a grace period", x.refusedOnDay(2, 1, 1), 400);
            x.setLimits(account, 0, 1, 1);
            Check.is("two days", x.refusedOnDay(2, 1, 1), 2);
            x.setLimits(account, 0, 1, 0);
            String before = Picture.of(x);
            Check.is("a whole grace period", x.refusedOnDay(2, 1, 2), 8);
            Check.isSame("nothing changes", Picture.of(x), before);
            Check.is("the day stays", x.day(), today);
            if (today == 10000) {
                Check.isThrown("for the days that pass it does", Check.STATE, () -> x.nextDays(1));
            }
        }
    }

    /** "The maximum size of a file does not matter." */
    private static void theSizeDoesNotMatter() {
        Story x = new Story();
        x.create(2, 1, 0, 0, 5000);
        x.setLimits(2, 0, 0, 100000);
        Check.is("to 100000 blocks", x.refusedOnDay(2, 1, 5000), 20);
        x.setLimits(2, 0, 0, 0);
        Check.is("to 2005000 blocks", x.refusedOnDay(2, 1, 5000), -1);
    }

    /** "Of the account of the user, and of the account of a group." */
    private static void theEarlierAccountDecides() {
        Story x = new Story();
        x.setLimits(2, 0, 0, 30);
        x.setLimits(7, 0, 0, 29);
        Check.is("the group's hard limit", x.refusedOnDay(2, 1, 1), 30);
        x.setLimits(7, 0, 0, 31);
        Check.is("the user's hard limit", x.refusedOnDay(2, 1, 1), 31);
        x.setLimits(7, 0, 22, 0);
        Check.is("the group's grace period", x.refusedOnDay(2, 1, 1), 30);
        x.setLimits(7, 0, 24, 0);
        Check.is("the user's hard limit again", x.refusedOnDay(2, 1, 1), 31);
    }

    private static void hardLimitDuringAGracePeriod() {
        Story x = new Story();
        x.setLimits(2, 0, 10, 16);
        Check.is("the hard limit first", x.refusedOnDay(2, 1, 1), 17);
        x.setLimits(2, 0, 10, 17);
        Check.is("both on one day", x.refusedOnDay(2, 1, 1), 18);
        x.setLimits(2, 0, 10, 18);
        Check.is("the grace period first", x.refusedOnDay(2, 1, 1), 18);
    }

    /**
     * "Checked like the resizing of a file of this owner"; term 5: "the acting user is the owner"; term 4: "an
     * operation whose acting user is exempt is not checked at all", for the group as little as for the user.
     */
    private static void exemptUsers() {
        Story x = new Story();
        x.setLimits(2, 0, 0, 1);
        x.setLimits(7, 0, 0, 1);
        for (int user = 0; user < 6; user++) {
            x.setExempt(user, user != 2);
        }
        Check.is("all others are exempt", x.refusedOnDay(2, 1, 1), 2);
        Check.is("one of them", x.refusedOnDay(3, 1, 5000), -1);
        x.setExempt(2, true);
        Check.is("the user is exempt", x.refusedOnDay(2, 1, 5000), -1);
    }

    /** The same sentences when the increases are refused because of the hard limit or of the grace period. */
    private static void exemptForEachReason() {
        for (int account : new int[] {2, 7}) {
            for (int soft : new int[] {0, 1}) {
                Story x = new Story();
                x.create(2, 1, 0, 0, 2);
                x.setLimits(account, 0, soft, soft == 0 ? 2 : 0);
                x.nextDays(7);
                Check.is("not exempt", x.refusedOnDay(2, 1, 1), 1);
                x.setExempt(2, true);
                Check.is("exempt, one block", x.refusedOnDay(2, 1, 1), -1);
                Check.is("exempt, 5000 blocks", x.refusedOnDay(2, 1, 5000), -1);
                Check.is("another user of the group", x.refusedOnDay(3, 1, 1), account == 7 ? 1 : -1);
                x.setExempt(2, false);
                Check.is("no longer exempt", x.refusedOnDay(2, 1, 1), 1);
            }
        }
    }

    /** "After one call nextDays(1), on the second day, and so on": asked of these calls and of resize. */
    private static void asTheDaysTell() {
        int[][] rows = {{0, 50, 0, 0, 3}, {20, 0, 0, 0, 3}, {20, 45, 0, 0, 4}, {0, 0, 0, 50, 7}, {0, 0, 20, 0, 7},
            {30, 0, 20, 45, 2}, {20, 45, 30, 40, 1}, {1, 0, 1, 0, 60}, {1, 1, 1, 1, 60}, {59, 60, 58, 0, 5}};
        for (int[] r : rows) {
            for (int first : new int[] {0, 1, 25, 60}) {
                Story x = new Story();
                x.create(2, 1, 0, 0, first);
                x.setLimits(2, 0, r[0], r[1]);
                x.setLimits(7, 0, r[2], r[3]);
                x.nextDays(3);
                int told = x.refusedOnDay(2, 1, r[4]);
                int n = 1;
                x.nextDays(1);
                while (n < 70 && x.resize(0, 0, first + n * r[4]) == 0) {
                    n++;
                    x.nextDays(1);
                }
                Check.is("limits " + r[0] + " " + r[1] + " " + r[2] + " " + r[3] + ", from " + first, told, n);
            }
        }
    }

    private static void otherAccountsDoNotMatter() {
        Story x = new Story();
        for (int account = 0; account < 9; account++) {
            x.setLimits(account, 0, 1, account == 2 || account == 7 ? 9 : 1);
        }
        Check.is("the user and the group", x.refusedOnDay(2, 1, 1), 9);
        Check.is("another group", x.refusedOnDay(2, 0, 1), 2);
        Check.is("another user", x.refusedOnDay(0, 1, 1), 2);
    }
}
