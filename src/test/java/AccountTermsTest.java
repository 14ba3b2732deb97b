/** Term 1 at its boundaries: accounts, files and usages. */
public final class AccountTermsTest {
    public static void main(String[] args) {
        numbersOfAccounts();
        names();
        sixtyFiles();
        sixtyFilesInATextAndAfterUndo();
        sizes();
        leastUsage();
        greatestUsage();
        Check.end();
    }

    /** "The account of the user u has the number u; the account of the group g has the number 6 + g." */
    private static void numbersOfAccounts() {
        for (int user = 0; user < 6; user++) {
            for (int group = 0; group < 3; group++) {
                Story x = new Story();
                x.create(user, group, 0, 0, 7);
                for (int account = 0; account < 9; account++) {
                    boolean charged = account == user || account == 6 + group;
                    String what = "file of " + user + " and " + group + ", account " + account;
                    Check.is(what, x.usage(account, 0), charged ? 7 : 0);
                    Check.is(what, x.usage(account, 1), charged ? 1 : 0);
                    Check.is(what, x.scannedUsage(account, 0), charged ? 7 : 0);
                    Check.is(what, x.scannedUsage(account, 1), charged ? 1 : 0);
                    Check.is(what, x.largestFile(account), charged ? 0 : -1);
                }
            }
        }
    }

    /** "In a directory a file is identified by its name": the last name of one is not the first of the next. */
    private static void names() {
        Story x = new Story();
        int[][] places = {{0, 99}, {1, 0}, {8, 99}, {9, 0}, {0, 0}, {9, 99}};
        for (int i = 0; i < places.length; i++) {
            int[] p = places[i];
            Check.is("none yet", x.sizeOf(p[0], p[1]), -1);
            Check.is("create", x.create(i % 6, i % 3, p[0], p[1], 10 + i), 0);
        }
        for (int i = 0; i < places.length; i++) {
            int[] p = places[i];
            Check.is("its size", x.sizeOf(p[0], p[1]), 10 + i);
            Check.is("its owner", x.ownerOf(p[0], p[1]), i % 6);
            Check.is("its group", x.groupOf(p[0], p[1]), i % 3);
            Check.is("delete", x.delete(p[0], p[1]), 10 + i);
            Check.is("no longer", x.sizeOf(p[0], p[1]), -1);
        }
    }

    /** "At most 60 files exist at a time." */
    private static void sixtyFiles() {
        Story x = new Story();
        for (int i = 0; i < 59; i++) {
            Check.is("a file below sixty", x.create(0, 0, i % 10, i, 1), 0);
        }
        Check.is("the file 60", x.create(5, 2, 9, 99, 5000), 0);
        Check.is("sixty files", x.fileCount(), 60);
        Check.isThrown("the file 61", Check.STATE, () -> x.create(5, 2, 9, 98, 5000));
        Check.is("still sixty files", x.fileCount(), 60);
        Check.is("the last is there", x.sizeOf(9, 99), 5000);
        Check.is("the first is there", x.sizeOf(0, 0), 1);
        Check.is("all may change", x.resize(9, 99, 4999) + x.move(0, 0, 5, 2), 0);
        x.delete(0, 0);
        Check.is("fifty-nine and one more", x.create(5, 2, 9, 98, 5000), 0);
        Check.isThrown("and not two more", Check.STATE, () -> x.create(5, 2, 9, 97, 5000));
    }

    private static void sixtyFilesInATextAndAfterUndo() {
        Story x = new Story();
        for (int i = 0; i < 59; i++) {
            x.create(0, 0, 0, i, 1);
        }
        x.save(0);
        Check.is("the file 60, not 61", Texts.run(x, "c0,0,1,0,0;c0,0,1,1,0"), 1);
        Check.is("sixty files", x.fileCount(), 60);
        x.undo();
        Check.is("one less after undo", x.fileCount(), 59);
        Check.is("the file 60 again", x.create(1, 1, 1, 1, 1), 0);
        x.restore(0);
        Check.is("one less after restore", x.fileCount(), 59);
        Check.is("the file 60 once more", x.create(1, 1, 1, 2, 1), 0);
        Check.isThrown("the file 61", Check.STATE, () -> x.create(1, 1, 1, 3, 1));
    }

    /** "A size, which is a number of blocks from 0 to 5000." */
    private static void sizes() {
        for (int size : new int[] {0, 1, 4999, 5000}) {
            Story x = new Story();
            Check.is("create", x.create(0, 0, 0, 0, size), 0);
            Check.is("its size", x.sizeOf(0, 0), size);
            Check.is("its usage", x.usage(0, 0), size);
            x.create(0, 0, 0, 1, 7);
            Check.is("resize", x.resize(0, 1, size), 0);
            Check.is("its size", x.sizeOf(0, 1), size);
            Check.is("create by a text", Texts.run(x, "c0,0,0,2," + size), 1);
            Check.is("its size", x.sizeOf(0, 2), size);
            Check.is("delete", x.delete(0, 2), size);
        }
        for (int size : new int[] {-1, 5001}) {
            Story x = new Story();
            x.create(0, 0, 0, 1, 7);
            Check.isThrown("create", Check.ARGUMENT, () -> x.create(0, 0, 0, 0, size));
            Check.isThrown("resize", Check.ARGUMENT, () -> x.resize(0, 1, size));
            Texts.put(x, "c0,0,0,2," + size);
            Check.isThrown("by a text", Check.STATE, () -> x.runText());
        }
    }

    /** "The usage is the sum of the sizes of all files that are charged to it, and their number": of no files, 0. */
    private static void leastUsage() {
        Story x = new Story();
        Check.is("no blocks", x.usage(0, 0) + x.scannedUsage(0, 0), 0);
        Check.is("no files", x.usage(0, 1) + x.scannedUsage(0, 1), 0);
        x.create(0, 0, 0, 0, 0);
        Check.is("a file without blocks", x.usage(0, 0) + x.scannedUsage(0, 0), 0);
        Check.is("is a file", x.usage(0, 1) * 10 + x.scannedUsage(0, 1), 11);
        x.delete(0, 0);
        Check.is("none again", x.usage(0, 1) + x.scannedUsage(0, 1), 0);
    }

    /** The same sentence with sixty files of the greatest size. */
    private static void greatestUsage() {
        Story x = new Story();
        for (int i = 0; i < 60; i++) {
            x.create(3, 1, 7, i, 5000);
        }
        for (int account : new int[] {3, 7}) {
            Check.is("blocks", x.usage(account, 0), 300000);
            Check.is("scanned blocks", x.scannedUsage(account, 0), 300000);
            Check.is("files", x.usage(account, 1), 60);
            Check.is("scanned files", x.scannedUsage(account, 1), 60);
        }
        Check.is("the directory", x.directorySize(7), 300000);
        for (int i = 0; i < 60; i++) {
            x.move(7, i, 0, 1);
        }
        Check.is("nothing is left", x.usage(3, 0) + x.usage(3, 1), 0);
        Check.is("all has moved", x.usage(0, 0) + x.usage(0, 1), 300060);
        Check.is("the group is the same", x.usage(7, 0) + x.usage(7, 1), 300060);
        for (int i = 0; i < 60; i++) {
            x.delete(7, i);
        }
        Check.is("nothing is left", x.usage(0, 0) + x.usage(0, 1) + x.usage(7, 0) + x.usage(7, 1), 0);
    }
}
