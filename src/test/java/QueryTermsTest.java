/** The promises 18 to 43 at their boundaries: each special answer, and the nearest state with another one. */
public final class QueryTermsTest {
    public static void main(String[] args) {
        noLimits();
        for (Pair pair : Pair.all()) {
            graceStart(pair);
            graceLeft(pair);
            available(pair);
            availableToTheBlock(pair);
            refusals(pair);
        }
        fewestDeletionsAtTheSoftLimit();
        fewestDeletionsTakesTheLargest();
        fewestDeletionsOfAll();
        fewestDeletionsFindsEachOfSixty();
        fewestDeletionsOfExistingFiles();
        noSuchFile();
        fileCount();
        directorySize();
        largestFile();
        largestFileOfTheSameSize();
        ifCreatedAnswersAsCreate();
        ifCreatedBesideSixtyFiles();
        Check.end();
    }

    /** Promises 20 and 21: "the limit, 0 if there is none". */
    private static void noLimits() {
        for (Pair pair : Pair.all()) {
            Story x = new Story();
            pair.limit(x, 1, 0);
            Check.is(pair.name() + ", soft alone", x.softLimit(pair.account, pair.resource), 1);
            Check.is(pair.name() + ", no hard limit", x.hardLimit(pair.account, pair.resource), 0);
            pair.limit(x, 0, 1);
            Check.is(pair.name() + ", no soft limit", x.softLimit(pair.account, pair.resource), 0);
            Check.is(pair.name() + ", hard alone", x.hardLimit(pair.account, pair.resource), 1);
            pair.limit(x, 99999, 100000);
            for (Pair other : Pair.all()) {
                boolean same = other.account == pair.account && other.resource == pair.resource;
                Check.is(other.name() + ", soft", x.softLimit(other.account, other.resource), same ? 99999 : 0);
                Check.is(other.name() + ", hard", x.hardLimit(other.account, other.resource), same ? 100000 : 0);
            }
        }
    }

    /** Promise 22: "the start day; NONE if no grace period is running": the day 0 is a start day. */
    private static void graceStart(Pair pair) {
        Story x = new Story();
        pair.begin(x, 2);
        Check.is(pair.name() + " does not run", pair.start(x), -1);
        pair.limit(x, 1, 0);
        Check.is(pair.name() + " runs since the day 0", pair.start(x), 0);
        for (Pair other : Pair.all()) {
            boolean same = other.account == pair.account && other.resource == pair.resource;
            Check.is(other.name() + " runs", other.start(x), same ? 0 : -1);
        }
        pair.shrink(x);
        Check.is(pair.name() + " does not run again", pair.start(x), -1);
    }

    /** Promise 23: "the number of days, 0 if it is over now; NONE if no grace period is running". */
    private static void graceLeft(Pair pair) {
        Story x = new Story();
        pair.begin(x, 2);
        Check.is(pair.name() + " does not run", pair.left(x), -1);
        pair.limit(x, 1, 0);
        for (int day = 0; day <= 9; day++) {
            Check.is(pair.name() + " on the day " + day, pair.left(x), Math.max(0, 7 - day));
            x.nextDays(1);
        }
        x.setGrace(pair.resource, 60);
        Check.is(pair.name() + " by the greatest length", pair.left(x), 50);
        x.setGrace(pair.resource, 11);
        Check.is(pair.name() + " by one day more", pair.left(x), 1);
        x.setGrace(pair.resource, 10);
        Check.is(pair.name() + " by the same days", pair.left(x), 0);
        x.setGrace(pair.resource, 1);
        Check.is(pair.name() + " by the least length", pair.left(x), 0);
        pair.shrink(x);
        Check.is(pair.name() + " does not run again", pair.left(x), -1);
    }

    /**
     * Promise 24: "the greatest d, 0 or more, such that an increase by d is not refused; UNLIMITED if none is
     * refused".
     */
    private static void available(Pair pair) {
        Story x = new Story();
        pair.begin(x, 3);
        Check.is(pair.name() + " without limits", pair.available(x), -2);
        int[][] rows = {{0, 100000, 99997}, {0, 5, 2}, {0, 4, 1}, {0, 3, 0}, {0, 2, 0}, {0, 1, 0}, {3, 4, 1},
            {3, 0, -2}, {4, 0, -2}, {2, 0, -2}, {2, 4, 1}, {2, 2, 0}};
        for (int[] r : rows) {
            pair.limit(x, r[0], r[1]);
            Check.is(pair.name() + ", limits " + r[0] + " " + r[1], pair.available(x), r[2]);
        }
        pair.limit(x, 0, 0);
        pair.limit(x, 2, 9);
        x.nextDays(6);
        Check.is(pair.name() + " with a day left", pair.available(x), 6);
        pair.limit(x, 2, 0);
        Check.is(pair.name() + " with a day left and no hard limit", pair.available(x), -2);
        x.nextDays(1);
        Check.is(pair.name() + " is over", pair.available(x), 0);
        pair.limit(x, 2, 9);
        Check.is(pair.name() + " is over below the hard limit", pair.available(x), 0);
        x.setExempt(pair.user(), true);
        Check.is(pair.name() + ", without exemptions", pair.available(x), 0);
        pair.limit(x, 3, 9);
        Check.is(pair.name() + " is cleared", pair.available(x), 6);
    }

    /** The same sentence, asked of the operations: by as many there is no refusal, by one more there is one. */
    private static void availableToTheBlock(Pair pair) {
        for (int hard = 2; hard <= 6; hard++) {
            Story x = new Story();
            pair.begin(x, 3);
            pair.limit(x, 0, hard);
            int free = pair.available(x);
            Check.is(pair.name() + ", hard limit " + hard, free, Math.max(0, hard - 3));
            for (int i = 0; i < free; i++) {
                Check.is(pair.name() + " grows", pair.grow(x), 0);
            }
            Check.is(pair.name() + " grows by one more", pair.grow(x), pair.hardReason());
        }
    }

    /** Promise 25: "of both resources together". */
    private static void refusals(Pair pair) {
        Story x = new Story();
        pair.begin(x, 1);
        pair.limit(x, 0, 1);
        for (int i = 0; i < 20; i++) {
            Check.is(pair.name() + " refused before", x.refusals(pair.account), i);
            pair.grow(x);
        }
        Pair other = new Pair(pair.account, 1 - pair.resource);
        pair.limit(x, 0, 0);
        other.limit(x, 0, 1);
        Check.is(other.name() + " refuses", x.create(pair.user(), pair.group(), 9, 9, 9), other.hardReason());
        for (int account = 0; account < 9; account++) {
            int due = account == pair.account ? 21 : 0;
            Check.is(pair.name() + " refused, account " + account, x.refusals(account), due);
        }
    }

    /**
     * Promise 26: "would bring its usage for BLOCKS to at most its soft limit"; "0 if the usage is at most the soft
     * limit".
     */
    private static void fewestDeletionsAtTheSoftLimit() {
        for (int account : new int[] {2, 7}) {
            Story x = new Story();
            Check.is("no files", x.fewestDeletions(account), 0);
            x.create(2, 1, 0, 0, 4);
            x.create(2, 1, 0, 1, 5);
            x.create(2, 1, 0, 2, 0);
            int[][] rows = {{0, 0}, {10, 0}, {9, 0}, {8, 1}, {5, 1}, {4, 1}, {3, 2}, {1, 2}};
            for (int[] r : rows) {
                x.setLimits(account, 0, r[0], 0);
                Check.is("account " + account + ", soft limit " + r[0], x.fewestDeletions(account), r[1]);
            }
            x.setLimits(account, 0, 0, 1);
            Check.is("a hard limit alone", x.fewestDeletions(account), 0);
            x.setLimits(account, 1, 1, 1);
            Check.is("limits for FILES", x.fewestDeletions(account), 0);
        }
    }

    /** "The smallest number of files": whatever the order in which they were created, and of this account alone. */
    private static void fewestDeletionsTakesTheLargest() {
        int[][] orders = {{1, 1, 2, 10}, {10, 2, 1, 1}, {1, 10, 1, 2}, {2, 1, 10, 1}};
        for (int[] sizes : orders) {
            Story x = new Story();
            for (int i = 0; i < sizes.length; i++) {
                x.create(2, 1, 0, i, sizes[i]);
            }
            x.create(2, 0, 1, 0, 3);
            x.create(3, 1, 1, 1, 30);
            int[][] rows = {{17, 0}, {16, 1}, {7, 1}, {6, 2}, {4, 2}, {3, 3}, {2, 3}, {1, 4}};
            for (int[] r : rows) {
                x.setLimits(2, 0, r[0], 0);
                Check.is("of the user, soft limit " + r[0], x.fewestDeletions(2), r[1]);
            }
            x.setLimits(7, 0, 14, 0);
            Check.is("of the group", x.fewestDeletions(7), 1);
            x.setLimits(7, 0, 13, 0);
            Check.is("of the group", x.fewestDeletions(7), 2);
        }
    }

    private static void fewestDeletionsOfAll() {
        int[][] rows = {{5000, 100000, 40}, {5000, 99999, 41}, {5000, 5000, 59}, {5000, 4999, 60}, {1, 1, 59},
            {1, 59, 1}, {1, 60, 0}, {0, 1, 0}};
        for (int[] r : rows) {
            Story x = new Story();
            for (int i = 0; i < 60; i++) {
                x.create(5, 2, i % 10, i, r[0]);
            }
            for (int account : new int[] {5, 8}) {
                x.setLimits(account, 0, r[1], 0);
                Check.is("sixty files of the size " + r[0], x.fewestDeletions(account), r[2]);
            }
        }
    }

    private static void fewestDeletionsFindsEachOfSixty() {
        for (int large = 0; large < 60; large++) {
            Story x = new Story();
            for (int i = 0; i < 60; i++) {
                x.create(5, 2, i % 10, i, i == large ? 5000 : 1);
            }
            for (int account : new int[] {5, 8}) {
                x.setLimits(account, 0, 59, 0);
                Check.is("file " + large + " is large", x.fewestDeletions(account), 1);
                x.setLimits(account, 0, 58, 0);
                Check.is("file " + large + " is large", x.fewestDeletions(account), 2);
            }
        }
    }

    /** "Files charged to an account": not those that were, and not those of an earlier question. */
    private static void fewestDeletionsOfExistingFiles() {
        for (int gone = 0; gone < 4; gone++) {
            Story x = new Story();
            x.create(0, 0, 1, 1, 100);
            for (int i = 0; i < 4; i++) {
                x.create(5, 2, 0, i, i == gone ? 100 : 3);
            }
            x.setLimits(5, 0, 5, 0);
            x.setLimits(0, 0, 1, 0);
            Check.is("all are there", x.fewestDeletions(5), 3);
            Check.is("of another account", x.fewestDeletions(0), 1);
            x.delete(0, gone);
            Check.is("the largest is deleted", x.fewestDeletions(5), 2);
            x.delete(0, (gone + 1) % 4);
            Check.is("one more is deleted", x.fewestDeletions(5), 1);
            x.move(0, (gone + 2) % 4, 1, 2);
            Check.is("one is moved", x.fewestDeletions(5), 0);
        }
    }

    private static void isFile(String what, Story x, int size, int owner, int group) {
        Check.is(what + ", size", x.sizeOf(4, 50), size);
        Check.is(what + ", owner", x.ownerOf(4, 50), owner);
        Check.is(what + ", group", x.groupOf(4, 50), group);
    }

    /** Promises 27 to 29: "NONE if there is no such file": the size, the owner and the group 0 are not NONE. */
    private static void noSuchFile() {
        Story x = new Story();
        x.create(5, 2, 4, 49, 9);
        x.create(5, 2, 4, 51, 9);
        x.create(5, 2, 3, 50, 9);
        x.create(5, 2, 5, 50, 9);
        isFile("none yet", x, -1, -1, -1);
        x.setLimits(0, 1, 0, 1);
        x.create(0, 0, 0, 0, 0);
        x.create(0, 0, 4, 50, 0);
        isFile("refused", x, -1, -1, -1);
        x.setLimits(0, 1, 0, 2);
        x.create(0, 0, 4, 50, 0);
        isFile("created", x, 0, 0, 0);
        x.resize(4, 50, 5000);
        isFile("resized", x, 5000, 0, 0);
        x.move(4, 50, 5, 2);
        isFile("moved", x, 5000, 5, 2);
        x.delete(4, 50);
        isFile("deleted", x, -1, -1, -1);
        x.undo();
        isFile("deleted and undone", x, 5000, 5, 2);
    }

    /** Promise 30: "the number of files that exist". */
    private static void fileCount() {
        Story x = new Story();
        Check.is("none", x.fileCount(), 0);
        x.setLimits(0, 1, 0, 1);
        x.create(0, 0, 0, 0, 0);
        Check.is("one", x.fileCount(), 1);
        x.create(0, 0, 0, 1, 0);
        Check.is("a refused one", x.fileCount(), 1);
        for (int i = 1; i < 60; i++) {
            x.create(1, 0, 0, i, 0);
        }
        Check.is("sixty", x.fileCount(), 60);
        x.move(0, 1, 2, 2);
        x.resize(0, 1, 9);
        Check.is("still sixty", x.fileCount(), 60);
        x.delete(0, 1);
        Check.is("fifty-nine", x.fileCount(), 59);
        x.undo();
        Check.is("sixty again", x.fileCount(), 60);
    }

    /** Promise 31: "the sum, 0 for a directory without files". */
    private static void directorySize() {
        for (int directory = 0; directory < 10; directory++) {
            Story x = new Story();
            Check.is("no files", x.directorySize(directory), 0);
            x.create(0, 0, directory, 0, 0);
            Check.is("no blocks", x.directorySize(directory), 0);
            x.create(0, 0, directory, 99, 5000);
            x.create(1, 1, directory, 98, 1);
            for (int other = 0; other < 10; other++) {
                Check.is("directory " + other, x.directorySize(other), other == directory ? 5001 : 0);
            }
            x.delete(directory, 99);
            Check.is("after a deletion", x.directorySize(directory), 1);
            x.delete(directory, 98);
            Check.is("no blocks again", x.directorySize(directory), 0);
        }
    }

    /** Promise 32: "100 * directory + name of the file; NONE if no file is charged to the account". */
    private static void largestFile() {
        int[][] places = {{0, 0, 0}, {0, 99, 99}, {1, 0, 100}, {9, 0, 900}, {9, 99, 999}};
        for (int[] p : places) {
            Story x = new Story();
            Check.is("none", x.largestFile(2), -1);
            x.create(2, 1, p[0], p[1], 0);
            for (int account = 0; account < 9; account++) {
                Check.is("a file without blocks", x.largestFile(account), account == 2 || account == 7 ? p[2] : -1);
            }
            x.create(2, 0, 5, 50, 1);
            Check.is("of one block", x.largestFile(2), 550);
            Check.is("not of this group", x.largestFile(7), p[2]);
            x.resize(p[0], p[1], 2);
            Check.is("of two blocks", x.largestFile(2), p[2]);
            x.move(p[0], p[1], 3, 1);
            Check.is("moved away", x.largestFile(2), 550);
            x.delete(5, 50);
            Check.is("none again", x.largestFile(2), -1);
        }
    }

    /** "Among files of the same size the one in the lowest directory, and there the one with the lowest name." */
    private static void largestFileOfTheSameSize() {
        int[][] orders = {{0, 1, 2, 3}, {3, 2, 1, 0}, {1, 0, 3, 2}, {2, 3, 0, 1}, {1, 3, 0, 2}, {2, 0, 3, 1}};
        int[][] places = {{1, 99}, {2, 7}, {2, 8}, {3, 0}};
        for (int[] order : orders) {
            Story x = new Story();
            x.create(2, 1, 0, 0, 8);
            for (int i : order) {
                x.create(2, 1, places[i][0], places[i][1], 9);
            }
            for (int[] place : places) {
                int due = 100 * place[0] + place[1];
                Check.is("of the user", x.largestFile(2), due);
                Check.is("of the group", x.largestFile(7), due);
                x.resize(place[0], place[1], 10);
                Check.is("larger by one", x.largestFile(2), due);
                x.resize(place[0], place[1], 7);
            }
            Check.is("all are smaller", x.largestFile(2), 0);
        }
    }

    /** Promise 33: "what create() would return now". */
    private static void ifCreatedAnswersAsCreate() {
        for (Pair pair : Pair.all()) {
            for (int soft = 0; soft < 3; soft++) {
                Story x = new Story();
                pair.begin(x, 3);
                pair.limit(x, soft, soft == 1 ? 0 : 4);
                x.nextDays(7);
                for (int blocks = 0; blocks < 3; blocks++) {
                    int tells = x.ifCreated(pair.user(), pair.group(), blocks);
                    int increase = pair.resource == 0 ? blocks : 1;
                    int due = increase == 0 ? 0 : soft > 0 ? pair.graceReason() : 0;
                    due = soft != 1 && increase > 1 ? pair.hardReason() : due;
                    Check.is(pair.name() + ", blocks " + blocks, tells, due);
                    Check.is(pair.name() + ", create", x.create(pair.user(), pair.group(), 9, 9, blocks), due);
                    x.undo();
                }
                x.setExempt(pair.user(), true);
                Check.is(pair.name() + ", exempt", x.ifCreated(pair.user(), pair.group(), 5000), 0);
            }
        }
    }

    /** "Where the file would be, and how many files exist, does not matter." */
    private static void ifCreatedBesideSixtyFiles() {
        Story x = new Story();
        for (int i = 0; i < 60; i++) {
            x.create(0, 0, 0, i, 1);
        }
        Check.is("not refused", x.ifCreated(0, 0, 5000), 0);
        x.setLimits(0, 1, 0, 61);
        x.setLimits(0, 0, 0, 5060);
        Check.is("to the limits", x.ifCreated(0, 0, 5000), 0);
        x.setLimits(0, 0, 0, 5059);
        Check.is("above the limit for BLOCKS", x.ifCreated(0, 0, 5000), 1);
        x.setLimits(0, 1, 0, 60);
        Check.is("above the limit for FILES", x.ifCreated(0, 0, 4999), 3);
        Check.is("another user", x.ifCreated(1, 0, 5000), 0);
    }
}
