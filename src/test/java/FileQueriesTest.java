/** Promises 27 to 32: the queries about files. */
public final class FileQueriesTest {
    public static void main(String[] args) {
        files();
        fileCount();
        directorySize();
        largestFile();
        Check.end();
    }

    private static void files() {
        Story x = new Story();
        Check.is("no size", x.sizeOf(0, 0), -1);
        Check.is("no owner", x.ownerOf(9, 99), -1);
        Check.is("no group", x.groupOf(5, 50), -1);
        x.create(4, 2, 1, 23, 45);
        x.create(0, 0, 12 % 10, 3, 0);
        Check.is("the size", x.sizeOf(1, 23), 45);
        Check.is("the owner", x.ownerOf(1, 23), 4);
        Check.is("the group", x.groupOf(1, 23), 2);
        Check.is("the size 0", x.sizeOf(2, 3), 0);
        Check.is("the owner 0", x.ownerOf(2, 3), 0);
        Check.is("the group 0", x.groupOf(2, 3), 0);
        Check.is("another name", x.sizeOf(1, 24), -1);
        Check.is("another directory", x.ownerOf(2, 23), -1);
        x.delete(1, 23);
        Check.is("no size then", x.sizeOf(1, 23), -1);
        Check.is("no owner then", x.ownerOf(1, 23), -1);
        Check.is("no group then", x.groupOf(1, 23), -1);
        Check.is("the other one stays", x.sizeOf(2, 3), 0);
    }

    private static void fileCount() {
        Story x = new Story();
        for (int i = 0; i < 60; i++) {
            x.create(i % 6, i % 3, i % 10, 99 - i, 0);
            Check.is("files", x.fileCount(), i + 1);
        }
        for (int i = 0; i < 60; i++) {
            x.delete(i % 10, 99 - i);
            Check.is("files left", x.fileCount(), 59 - i);
        }
    }

    private static void directorySize() {
        Story x = new Story();
        x.create(0, 0, 0, 99, 1);
        x.create(1, 1, 1, 0, 10);
        x.create(2, 2, 1, 99, 100);
        x.create(3, 0, 2, 0, 1000);
        x.create(4, 0, 9, 99, 5000);
        int[] due = {1, 110, 1000, 0, 0, 0, 0, 0, 0, 5000};
        for (int directory = 0; directory < 10; directory++) {
            Check.is("directory " + directory, x.directorySize(directory), due[directory]);
        }
        x.resize(1, 0, 11);
        x.delete(1, 99);
        Check.is("after changes", x.directorySize(1), 11);
    }

    private static void largestFile() {
        Story x = new Story();
        Check.is("no file", x.largestFile(0), -1);
        x.create(1, 2, 9, 99, 0);
        Check.is("a file of the size 0", x.largestFile(1), 999);
        Check.is("for its group", x.largestFile(8), 999);
        Check.is("not for another", x.largestFile(0), -1);
        Check.is("not for another group", x.largestFile(6), -1);
        x.create(1, 2, 5, 7, 4);
        Check.is("a larger one", x.largestFile(1), 507);
        x.create(1, 2, 5, 8, 4);
        Check.is("the lowest name", x.largestFile(1), 507);
        x.create(1, 2, 5, 6, 4);
        Check.is("a lower name", x.largestFile(1), 506);
        x.create(1, 1, 4, 90, 4);
        Check.is("a lower directory", x.largestFile(1), 490);
        Check.is("the group has another", x.largestFile(8), 506);
        x.create(2, 2, 0, 0, 3);
        Check.is("a smaller one", x.largestFile(8), 506);
        x.create(2, 2, 0, 1, 5);
        Check.is("of another owner", x.largestFile(8), 1);
        Check.is("not of this owner", x.largestFile(1), 490);
        x.delete(5, 6);
        x.delete(4, 90);
        Check.is("after deletions", x.largestFile(1), 507);
    }
}
