/** Term 5 at its boundaries: what the operations on files increase and decrease, and in which order is reviewed. */
public final class OperationTermsTest {
    public static void main(String[] args) {
        create();
        resize();
        resizeAtTheLimits();
        deleteIsNeverRefused();
        moveOfBoth();
        moveOfTheUser();
        moveOfTheGroup();
        moveOfNeither();
        reviewsInOrder();
        Check.end();
    }

    private static void usages(String what, Story x, int account, int blocks, int files) {
        Check.is(what + ", blocks of " + account, x.usage(account, 0), blocks);
        Check.is(what + ", files of " + account, x.usage(account, 1), files);
    }

    /**
     * "To create a file increases the usage of both accounts by the size (BLOCKS) and by 1 (FILES)", also by the size
     * 0.
     */
    private static void create() {
        for (int size : new int[] {0, 1, 5000}) {
            Story x = new Story();
            x.create(2, 1, 0, 0, 10);
            x.create(2, 1, 0, 1, size);
            usages("create", x, 2, 10 + size, 2);
            usages("create", x, 7, 10 + size, 2);
        }
    }

    /** "By b - a if b is greater than a, and decreases it by a - b otherwise." */
    private static void resize() {
        int[][] sizes = {{0, 0}, {0, 5000}, {5000, 0}, {5000, 5000}, {7, 8}, {7, 7}, {7, 6}};
        for (int[] s : sizes) {
            Story x = new Story();
            x.create(2, 1, 0, 0, 10);
            x.create(2, 1, 0, 1, s[0]);
            Check.is("resize from " + s[0], x.resize(0, 1, s[1]), 0);
            Check.is("the size", x.sizeOf(0, 1), s[1]);
            Check.is("the other size", x.sizeOf(0, 0), 10);
            usages("resize", x, 2, 10 + s[1], 2);
            usages("resize", x, 7, 10 + s[1], 2);
        }
    }

    private static void resizeAtTheLimits() {
        for (int account : new int[] {2, 7}) {
            Story x = new Story();
            x.create(2, 1, 0, 0, 7);
            x.setLimits(account, 0, 0, 7);
            Check.is("one more", x.resize(0, 0, 8), account == 2 ? 1 : 5);
            Check.is("the same", x.resize(0, 0, 7), 0);
            Check.is("one less", x.resize(0, 0, 6), 0);
            Check.is("up to the limit", x.resize(0, 0, 7), 0);
            x.setLimits(account, 0, 0, 8);
            Check.is("one more", x.resize(0, 0, 8), 0);
        }
    }

    /** "To delete a file decreases the usages of both accounts. It is never refused." */
    private static void deleteIsNeverRefused() {
        Story x = new Story();
        for (int i = 0; i < 5; i++) {
            x.create(2, 1, 0, i, 5 * i);
        }
        for (int account : new int[] {2, 7}) {
            x.setLimits(account, 0, 1, 1);
            x.setLimits(account, 1, 1, 1);
        }
        x.nextDays(9);
        Check.is("all are over", x.overGraces(), 4);
        int blocks = 50;
        for (int i = 0; i < 5; i++) {
            Check.is("delete answers the size", x.delete(0, i), 5 * i);
            blocks -= 5 * i;
            usages("delete", x, 2, blocks, 4 - i);
            usages("delete", x, 7, blocks, 4 - i);
        }
        Check.is("no refusals", x.refusals(2) + x.refusals(7), 0);
        Check.is("all are cleared", x.runningGraces(), 0);
    }

    /** A file of 6 blocks of user 0 and group 0; user 1 and group 1 have one of 3 blocks. */
    private static Story twoFiles() {
        Story x = new Story();
        x.create(0, 0, 0, 0, 6);
        x.create(1, 1, 0, 1, 3);
        return x;
    }

    /**
     * "Otherwise the usage of the account of the new owner increases by the size and by 1, that of the present owner
     * decreases."
     */
    private static void moveOfBoth() {
        Story x = twoFiles();
        int[][] limits = {{1, 0, 9, 1}, {1, 1, 2, 3}, {7, 0, 9, 5}, {7, 1, 2, 7}};
        for (int[] l : limits) {
            x.setLimits(l[0], l[1], 0, l[2] - 1);
            Check.is("one above the limit", x.move(0, 0, 1, 1), l[3]);
            x.setLimits(l[0], l[1], 0, l[2]);
        }
        Check.is("to all four limits", x.move(0, 0, 1, 1), 0);
        usages("move", x, 0, 0, 0);
        usages("move", x, 1, 9, 2);
        usages("move", x, 6, 0, 0);
        usages("move", x, 7, 9, 2);
    }

    /** "The same holds for the groups": the group stays, does not change, and is not checked. */
    private static void moveOfTheUser() {
        Story x = twoFiles();
        x.setLimits(6, 0, 1, 1);
        x.setLimits(6, 1, 0, 1);
        x.nextDays(7);
        x.setLimits(1, 0, 0, 8);
        Check.is("above the new owner's limit", x.move(0, 0, 1, 0), 1);
        x.setLimits(1, 0, 0, 9);
        Check.is("to the new owner's limit", x.move(0, 0, 1, 0), 0);
        usages("move", x, 0, 0, 0);
        usages("move", x, 1, 9, 2);
        usages("move", x, 6, 6, 1);
        usages("move", x, 7, 3, 1);
        Check.is("the group", x.groupOf(0, 0), 0);
    }

    /** "If the new owner is the present owner, the user account does not change, and it is not checked." */
    private static void moveOfTheGroup() {
        Story x = twoFiles();
        x.setLimits(0, 0, 1, 1);
        x.setLimits(0, 1, 0, 1);
        x.nextDays(7);
        x.setLimits(7, 1, 0, 1);
        Check.is("above the new group's limit", x.move(0, 0, 0, 1), 7);
        x.setLimits(7, 1, 0, 2);
        Check.is("to the new group's limit", x.move(0, 0, 0, 1), 0);
        usages("move", x, 0, 6, 1);
        usages("move", x, 1, 3, 1);
        usages("move", x, 6, 0, 0);
        usages("move", x, 7, 9, 2);
        Check.is("the owner", x.ownerOf(0, 0), 0);
    }

    /** "Each of them can be the present one." */
    private static void moveOfNeither() {
        Story x = twoFiles();
        for (int account : new int[] {0, 6}) {
            x.setLimits(account, 0, 1, 1);
            x.setLimits(account, 1, 1, 1);
        }
        x.nextDays(7);
        String before = Picture.ofState(x);
        Check.is("move to where it is", x.move(0, 0, 0, 0), 0);
        Check.isSame("nothing changes", Picture.ofState(x), before);
    }

    /** "All nine accounts are reviewed, in ascending order, and each of them for BLOCKS first and then for FILES." */
    private static void reviewsInOrder() {
        Story x = new Story();
        x.create(3, 0, 0, 0, 5);
        x.create(3, 0, 0, 1, 5);
        x.create(1, 2, 0, 2, 5);
        for (int account : new int[] {1, 3, 6, 8}) {
            x.setLimits(account, 0, 5, 0);
            x.setLimits(account, 1, 1, 0);
        }
        Check.is("four run", x.runningGraces(), 4);
        x.nextDays(2);
        x.move(0, 0, 1, 2);
        int[][] due = {{1, 0, 1}, {1, 1, 1}, {3, 0, 2}, {3, 1, 2}, {6, 0, 2}, {6, 1, 2}, {8, 0, 1}, {8, 1, 1}};
        Check.is("eight more events", x.eventCount(), 12);
        for (int i = 0; i < 8; i++) {
            int[] d = due[7 - i];
            Check.isSame("the event " + i, Pair.event(x, i), new Pair(d[0], d[1]).event(d[2], 2));
        }
    }
}
