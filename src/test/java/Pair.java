/** An account and a resource, with operations that change the usage of the pair by 1 and no usage of the other kind. */
final class Pair {
    private static final int DIRECTORY = 3;

    final int account;
    final int resource;

    Pair(int account, int resource) {
        this.account = account;
        this.resource = resource;
    }

    /** All pairs, in the order in which the document goes through them. */
    static Pair[] all() {
        Pair[] pairs = new Pair[18];
        for (int i = 0; i < pairs.length; i++) {
            pairs[i] = new Pair(i / 2, i % 2);
        }
        return pairs;
    }

    /** Two blocks and two files at least for each account. */
    static void twoFilesEach(Story x) {
        for (int user = 0; user < 6; user++) {
            x.create(user, user % 3, 0, 2 * user, 2);
            x.create(user, user % 3, 0, 2 * user + 1, 2);
        }
    }

    String name() {
        return "account " + account + " resource " + resource;
    }

    int user() {
        return account < 6 ? account : 4;
    }

    int group() {
        return account < 6 ? 1 : account - 6;
    }

    /** The reason for which this pair refuses because of the hard limit, and one more because of the grace period. */
    int hardReason() {
        return (account < 6 ? 1 : 5) + 2 * resource;
    }

    int graceReason() {
        return hardReason() + 1;
    }

    /** For BLOCKS one file, for FILES as many as the usage that is wanted. */
    void begin(Story x, int usage) {
        if (resource == 0) {
            x.create(user(), group(), DIRECTORY, 0, usage);
            return;
        }
        for (int name = 0; name < usage; name++) {
            x.create(user(), group(), DIRECTORY, name, 0);
        }
    }

    int grow(Story x) {
        if (resource == 0) {
            return x.resize(DIRECTORY, 0, x.sizeOf(DIRECTORY, 0) + 1);
        }
        return x.create(user(), group(), DIRECTORY, x.fileCount(), 0);
    }

    int shrink(Story x) {
        if (resource == 0) {
            return x.resize(DIRECTORY, 0, x.sizeOf(DIRECTORY, 0) - 1);
        }
        return x.delete(DIRECTORY, x.fileCount() - 1);
    }

    int usage(Story x) {
        return x.usage(account, resource);
    }

    void limit(Story x, int soft, int hard) {
        x.setLimits(account, resource, soft, hard);
    }

    int start(Story x) {
        return x.graceStart(account, resource);
    }

    int left(Story x) {
        return x.graceLeft(account, resource);
    }

    int available(Story x) {
        return x.available(account, resource);
    }

    /** The latest event, with its four parts as one text. */
    static String event(Story x, int index) {
        return x.event(index, 0) + " " + x.event(index, 1) + " " + x.event(index, 2) + " " + x.event(index, 3);
    }

    String event(int kind, int day) {
        return kind + " " + account + " " + resource + " " + day;
    }
}
