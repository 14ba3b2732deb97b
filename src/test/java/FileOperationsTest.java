/** Promises 1 to 5: a new object, create, resize, delete, move; with the checks and reviews of the terms 3 to 6. */
public final class FileOperationsTest {
    public static void main(String[] args) {
        newObject();
        create();
        createEdges();
        createReasons();
        createGraceReasons();
        bothCauses();
        resize();
        delete();
        move();
        moveOfOneSide();
        moveRefused();
        moveRefusedElsewhere();
        exemptActors();
        increaseByNothing();
        reviewOrder();
        Check.end();
    }

    private static void newObject() {
        Story x = new Story();
        Check.is("a new day", x.day(), 0);
        Check.is("new files", x.fileCount(), 0);
        for (int account = 0; account < 9; account++) {
            for (int resource = 0; resource < 2; resource++) {
                Check.is("a new usage", x.usage(account, resource), 0);
                Check.is("a new soft limit", x.softLimit(account, resource), 0);
                Check.is("a new hard limit", x.hardLimit(account, resource), 0);
                Check.is("a new grace period", x.graceStart(account, resource), -1);
            }
            Check.is("new refusals", x.refusals(account), 0);
        }
        for (int user = 0; user < 6; user++) {
            Check.is("a new user", x.isExempt(user), false);
        }
        Check.is("a new grace length", x.graceLength(0), 7);
        Check.is("a new grace length", x.graceLength(1), 7);
        Check.is("a new log", x.eventCount(), 0);
        Check.is("new saved states", x.savedStates(), 0);
        Check.is("a new text", x.textLength(), 0);
        Check.isThrown("a new slot 0", Check.STATE, () -> x.restore(0));
        Check.isThrown("a new slot 1", Check.STATE, () -> x.restore(1));
        new StorageQuotas().create(0, 0, 0, 0, 5);
        Check.is("another object has its own files", x.fileCount(), 0);
    }

    private static void create() {
        Story x = new Story();
        Check.is("create", x.create(3, 1, 4, 17, 250), 0);
        Check.is("create is undoable", x.savedStates(), 1);
        Check.is("its size", x.sizeOf(4, 17), 250);
        Check.is("its owner", x.ownerOf(4, 17), 3);
        Check.is("its group", x.groupOf(4, 17), 1);
        Check.is("files", x.fileCount(), 1);
        for (int account = 0; account < 9; account++) {
            boolean charged = account == 3 || account == 7;
            Check.is("blocks of " + account, x.usage(account, 0), charged ? 250 : 0);
            Check.is("files of " + account, x.usage(account, 1), charged ? 1 : 0);
        }
        Check.is("the same name elsewhere", x.create(3, 1, 5, 17, 1), 0);
        Check.is("another name there", x.create(2, 1, 4, 18, 2), 0);
        Check.is("blocks of the group", x.usage(7, 0), 253);
        Check.is("files of the group", x.usage(7, 1), 3);
        Check.is("blocks of the user", x.usage(3, 0), 251);
    }

    private static void createEdges() {
        Story x = new Story();
        Check.is("the lowest", x.create(0, 0, 0, 0, 0), 0);
        Check.is("the greatest", x.create(5, 2, 9, 99, 5000), 0);
        Check.is("its size", x.sizeOf(9, 99), 5000);
        Check.is("its blocks", x.usage(5, 0), 5000);
        Check.is("its group's blocks", x.usage(8, 0), 5000);
        for (int i = 2; i < 60; i++) {
            Check.is("file " + i, x.create(i % 6, i % 3, i % 10, i, i), 0);
        }
        Check.is("sixty files", x.fileCount(), 60);
        Check.isRefused("the file 61", Check.STATE, x, () -> x.create(0, 0, 0, 99, 0));
        x.delete(0, 0);
        Check.is("again the file 60", x.create(0, 0, 0, 99, 0), 0);
    }

    private static void createReasons() {
        int[] accounts = {2, 2, 7, 7};
        for (int i = 0; i < 4; i++) {
            Story x = new Story();
            x.create(2, 1, 0, 0, 10);
            int resource = i % 2;
            int bound = resource == 0 ? 15 : 1;
            x.setLimits(accounts[i], resource, 0, bound);
            int before = x.savedStates();
            String picture = Picture.ofState(x);
            Check.is("refused by a hard limit", x.create(2, 1, 0, 1, 6), 2 * i + 1);
            Check.is("a refusal is saved, too", x.savedStates(), before + 1);
            Check.is("counted", x.refusals(accounts[i]), 1);
            Check.is("counted once", sumOfRefusals(x), 1);
            Check.is("its kind", x.event(0, 0), 4);
            Check.is("its account", x.event(0, 1), accounts[i]);
            Check.is("its resource", x.event(0, 2), resource);
            Check.is("its day", x.event(0, 3), 0);
            Check.is("no file", x.sizeOf(0, 1), -1);
            Check.is("no usage", x.usage(2, 0), 10);
            x.undo();
            Check.isSame("undone", Picture.ofState(x), picture);
            x.setLimits(accounts[i], resource, 0, resource == 0 ? 16 : 2);
            Check.is("just at the limit", x.create(2, 1, 0, 1, 6), 0);
        }
        Story y = new Story();
        y.setLimits(0, 0, 0, 1);
        y.setLimits(0, 1, 0, 1);
        y.setLimits(6, 0, 0, 1);
        y.setLimits(6, 1, 0, 1);
        y.create(0, 0, 0, 0, 1);
        Check.is("first the user's blocks", y.create(0, 0, 0, 1, 1), 1);
        y.setLimits(0, 0, 0, 0);
        Check.is("then the user's files", y.create(0, 0, 0, 1, 1), 3);
        y.setLimits(0, 1, 0, 0);
        Check.is("then the group's blocks", y.create(0, 0, 0, 1, 1), 5);
        y.setLimits(6, 0, 0, 0);
        Check.is("then the group's files", y.create(0, 0, 0, 1, 1), 7);
        y.setLimits(6, 1, 0, 0);
        Check.is("then none", y.create(0, 0, 0, 1, 1), 0);
        Check.is("the user's refusals", y.refusals(0), 2);
        Check.is("the group's refusals", y.refusals(6), 2);
    }

    private static int sumOfRefusals(Story x) {
        int sum = 0;
        for (int account = 0; account < 9; account++) {
            sum += x.refusals(account);
        }
        return sum;
    }

    private static void createGraceReasons() {
        int[] accounts = {2, 2, 7, 7};
        for (int i = 0; i < 4; i++) {
            Story x = new Story();
            int resource = i % 2;
            x.setLimits(accounts[i], resource, 1, 0);
            x.create(2, 1, 0, 0, 1);
            Check.is("at the soft limit", x.graceStart(accounts[i], resource), -1);
            x.nextDays(3);
            Check.is("above the soft limit", x.create(2, 1, 0, 1, 1), 0);
            Check.is("starts", x.graceStart(accounts[i], resource), 3);
            Check.is("is logged", x.event(0, 0), 1);
            Check.is("for the account", x.event(0, 1), accounts[i]);
            Check.is("for the resource", x.event(0, 2), resource);
            Check.is("on the day", x.event(0, 3), 3);
            x.nextDays(6);
            Check.is("not over yet", x.create(2, 1, 0, 2, 1), 0);
            x.nextDays(1);
            Check.is("over", x.create(2, 1, 0, 3, 1), 2 * i + 2);
            Check.is("counted", x.refusals(accounts[i]), 1);
            Check.is("logged", x.event(0, 0), 4);
            Check.is("logged for the account", x.event(0, 1), accounts[i]);
            Check.is("logged for the resource", x.event(0, 2), resource);
            Check.is("logged on the day", x.event(0, 3), 10);
        }
    }

    private static void bothCauses() {
        Story x = new Story();
        x.setLimits(0, 0, 1, 5);
        x.create(0, 0, 0, 0, 3);
        x.nextDays(7);
        Check.is("the grace period alone", x.resize(0, 0, 5), 2);
        Check.is("the hard limit is the cause", x.resize(0, 0, 6), 1);
    }

    private static void resize() {
        Story x = new Story();
        x.create(1, 2, 3, 4, 100);
        x.create(1, 2, 3, 5, 7);
        Check.is("greater", x.resize(3, 4, 5000), 0);
        Check.is("its size", x.sizeOf(3, 4), 5000);
        Check.is("the other's size", x.sizeOf(3, 5), 7);
        Check.is("the user's blocks", x.usage(1, 0), 5007);
        Check.is("the group's blocks", x.usage(8, 0), 5007);
        Check.is("the user's files", x.usage(1, 1), 2);
        Check.is("smaller", x.resize(3, 4, 0), 0);
        Check.is("the user's blocks then", x.usage(1, 0), 7);
        Check.is("the same", x.resize(3, 4, 0), 0);
        Check.is("all are undoable", x.savedStates(), 5);
        x.setLimits(1, 0, 0, 10);
        x.setLimits(8, 0, 5, 9);
        Check.is("starts with setLimits", x.graceStart(8, 0), 0);
        Check.is("refused by the group", x.resize(3, 4, 3), 5);
        Check.is("refused by the user", x.resize(3, 4, 4), 1);
        Check.is("the size stays", x.sizeOf(3, 4), 0);
        Check.is("the usage stays", x.usage(1, 0), 7);
        Check.is("a refusal is saved", x.savedStates(), 6);
        Check.is("counted for the group", x.refusals(8), 1);
        Check.is("counted for the user", x.refusals(1), 1);
        Check.is("logged for the user", x.event(0, 1), 1);
        Check.is("logged for the group", x.event(1, 1), 8);
        Check.is("logged for BLOCKS", x.event(0, 2) + x.event(1, 2), 0);
        x.nextDays(7);
        Check.is("refused by the grace period", x.resize(3, 4, 1), 6);
        Check.is("smaller is not refused", x.resize(3, 5, 6), 0);
        Check.is("still running", x.graceStart(8, 0), 0);
        Check.is("to the soft limit", x.resize(3, 5, 5), 0);
        Check.is("cleared", x.graceStart(8, 0), -1);
        Check.is("logged as cleared", x.event(0, 0), 2);
        Check.is("of the group", x.event(0, 1), 8);
        Check.is("above again", x.resize(3, 5, 6), 0);
        Check.is("starts anew", x.graceStart(8, 0), 7);
    }

    private static void delete() {
        Story x = new Story();
        x.create(0, 0, 0, 0, 5);
        x.create(1, 0, 0, 1, 6);
        x.create(0, 1, 9, 99, 7);
        x.setLimits(0, 0, 7, 12);
        Check.is("above the soft limit", x.graceStart(0, 0), 0);
        x.nextDays(8);
        Check.is("delete answers the size", x.delete(0, 0), 5);
        Check.is("cleared", x.graceStart(0, 0), -1);
        Check.is("its event", x.event(0, 0), 2);
        Check.is("its day", x.event(0, 3), 8);
        Check.is("gone", x.sizeOf(0, 0), -1);
        Check.is("no owner", x.ownerOf(0, 0), -1);
        Check.is("the others stay", x.sizeOf(0, 1), 6);
        Check.is("the last stays", x.sizeOf(9, 99), 7);
        Check.is("its owner stays", x.ownerOf(9, 99), 0);
        Check.is("its group stays", x.groupOf(9, 99), 1);
        Check.is("files", x.fileCount(), 2);
        Check.is("the user's blocks", x.usage(0, 0), 7);
        Check.is("the user's files", x.usage(0, 1), 1);
        Check.is("the group's blocks", x.usage(6, 0), 6);
        Check.is("the group's files", x.usage(6, 1), 1);
        Check.is("undoable", x.savedStates(), 6);
        Check.is("a file of the size 0", x.create(5, 2, 1, 1, 0) + x.delete(1, 1), 0);
        Check.is("the last", x.delete(9, 99), 7);
        Check.is("the only one", x.delete(0, 1), 6);
        Check.is("none is left", x.fileCount(), 0);
        Check.is("no usage is left", x.usage(6, 0) + x.usage(6, 1) + x.usage(0, 0) + x.usage(1, 1), 0);
    }

    private static void move() {
        Story x = new Story();
        x.create(0, 0, 2, 3, 50);
        x.create(0, 0, 2, 4, 1);
        Check.is("move", x.move(2, 3, 4, 2), 0);
        Check.is("undoable", x.savedStates(), 3);
        Check.is("the new owner", x.ownerOf(2, 3), 4);
        Check.is("the new group", x.groupOf(2, 3), 2);
        Check.is("the size stays", x.sizeOf(2, 3), 50);
        Check.is("the other file stays", x.ownerOf(2, 4), 0);
        int[][] due = {{1, 1}, {0, 0}, {0, 0}, {0, 0}, {50, 1}, {0, 0}, {1, 1}, {0, 0}, {50, 1}};
        for (int account = 0; account < 9; account++) {
            Check.is("blocks of " + account, x.usage(account, 0), due[account][0]);
            Check.is("files of " + account, x.usage(account, 1), due[account][1]);
        }
        Check.is("to where it is", x.move(2, 3, 4, 2), 0);
        Check.is("undoable as well", x.savedStates(), 4);
        Check.is("nothing changes", x.usage(4, 0), 50);
    }

    private static void moveOfOneSide() {
        Story x = new Story();
        x.create(0, 0, 0, 0, 10);
        x.setLimits(0, 0, 0, 5);
        x.setLimits(0, 1, 1, 1);
        x.setLimits(6, 0, 0, 5);
        Check.is("the present owner is not checked", x.move(0, 0, 0, 1), 0);
        Check.is("his blocks", x.usage(0, 0), 10);
        Check.is("his files", x.usage(0, 1), 1);
        Check.is("the old group", x.usage(6, 0), 0);
        Check.is("the new group", x.usage(7, 0), 10);
        x.setLimits(7, 0, 0, 5);
        x.setLimits(7, 1, 0, 1);
        Check.is("the present group is not checked", x.move(0, 0, 1, 1), 0);
        Check.is("its blocks", x.usage(7, 0), 10);
        Check.is("its files", x.usage(7, 1), 1);
        Check.is("the old owner", x.usage(0, 0), 0);
        Check.is("the new owner", x.usage(1, 0), 10);
        Check.is("back to the first owner", x.move(0, 0, 0, 1), 1);
        Check.is("back to the first group", x.move(0, 0, 1, 0), 5);
    }

    private static void moveRefused() {
        Story x = new Story();
        x.create(0, 0, 0, 0, 10);
        x.create(1, 1, 0, 1, 10);
        x.setLimits(1, 0, 5, 0);
        x.setLimits(1, 1, 0, 1);
        x.nextDays(7);
        String files = x.ownerOf(0, 0) + " " + x.groupOf(0, 0) + " " + x.usage(0, 0) + " " + x.usage(1, 0);
        Check.is("the new owner's blocks", x.move(0, 0, 1, 1), 2);
        Check.is("counted for the new owner", x.refusals(1), 1);
        Check.is("not for the present owner", x.refusals(0), 0);
        Check.isSame("nothing moves",
                x.ownerOf(0, 0) + " " + x.groupOf(0, 0) + " " + x.usage(0, 0) + " " + x.usage(1, 0), files);
        x.resize(0, 0, 0);
        Check.is("no blocks: the new owner's files", x.move(0, 0, 1, 1), 3);
        x.setLimits(1, 1, 0, 0);
        x.setLimits(7, 1, 0, 1);
        Check.is("the new group's files", x.move(0, 0, 1, 1), 7);
        Check.is("counted for the new group", x.refusals(7), 1);
        Check.is("not for the user", x.refusals(1), 2);
        x.setLimits(7, 1, 0, 2);
        Check.is("no longer refused", x.move(0, 0, 1, 1), 0);
    }

    private static void moveRefusedElsewhere() {
        Story x = new Story();
        x.create(0, 0, 0, 0, 10);
        x.setLimits(4, 0, 0, 9);
        x.setLimits(7, 1, 0, 1);
        x.create(3, 1, 0, 1, 0);
        Check.is("by the user", x.move(0, 0, 4, 1), 1);
        Check.is("counted for the user", x.refusals(4), 1);
        Check.is("logged for the user", x.event(0, 1), 4);
        Check.is("by the group", x.move(0, 0, 5, 1), 7);
        Check.is("counted for the group", x.refusals(7), 1);
        Check.is("logged for the group", x.event(0, 1), 7);
        Check.is("logged for FILES", x.event(0, 2), 1);
    }

    private static void exemptActors() {
        Story x = new Story();
        x.setLimits(0, 0, 1, 2);
        x.setLimits(6, 1, 0, 1);
        x.setExempt(0, true);
        Check.is("an exempt creator", x.create(0, 0, 0, 0, 5), 0);
        Check.is("is reviewed all the same", x.graceStart(0, 0), 0);
        Check.is("also beyond the group's limit", x.create(0, 0, 0, 1, 5), 0);
        x.nextDays(10);
        Check.is("an exempt owner resizes", x.resize(0, 0, 100), 0);
        Check.is("another creator is checked", x.create(1, 0, 0, 2, 5), 7);
        Check.is("a move from an exempt owner is checked", x.move(0, 0, 1, 1), 0);
        Check.is("a move to an exempt owner is not", x.move(0, 0, 0, 0), 0);
        x.setLimits(1, 0, 0, 1);
        Check.is("the new owner acts", x.move(0, 0, 1, 1), 1);
        x.setExempt(0, false);
        Check.is("no longer exempt", x.resize(0, 0, 101), 1);
    }

    private static void increaseByNothing() {
        Story x = new Story();
        x.create(0, 0, 0, 0, 10);
        x.setLimits(0, 0, 1, 5);
        x.setLimits(6, 0, 1, 5);
        x.nextDays(7);
        Check.is("a file of the size 0", x.create(0, 0, 0, 1, 0), 0);
        Check.is("resized to its size", x.resize(0, 0, 10), 0);
        Check.is("resized to less", x.resize(0, 0, 9), 0);
        Check.is("resized to more", x.resize(0, 0, 10), 1);
    }

    private static void reviewOrder() {
        Story x = new Story();
        for (int account : new int[] {8, 2}) {
            x.setLimits(account, 1, 1, 0);
            x.setLimits(account, 0, 1, 0);
        }
        x.create(2, 2, 0, 0, 1);
        x.create(2, 2, 0, 1, 1);
        int[][] due = {{8, 1}, {8, 0}, {2, 1}, {2, 0}};
        Check.is("four events", x.eventCount(), 4);
        for (int i = 0; i < 4; i++) {
            Check.is("the event " + i, x.event(i, 0), 1);
            Check.is("its account", x.event(i, 1), due[i][0]);
            Check.is("its resource", x.event(i, 2), due[i][1]);
        }
        x.create(5, 1, 0, 2, 5);
        x.setLimits(5, 0, 4, 0);
        x.move(0, 2, 1, 1);
        Check.is("the old owner is cleared", x.event(0, 0) * 10 + x.event(0, 1), 25);
        x.move(0, 2, 5, 1);
        Check.is("a new owner starts", x.event(0, 0) * 10 + x.event(0, 1), 15);
    }
}
