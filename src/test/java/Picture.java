/** All that the queries tell of a manager, as one text, to compare two moments or two managers. */
final class Picture {
    private Picture() {
    }

    /** The state, and what stands beside it: the text buffer and the number of saved states. */
    static String of(Story story) {
        Story x = story.again();
        return ofState(story) + " saved " + x.savedStates() + " text " + x.textLength() + " error " + x.errorPosition();
    }

    static String ofState(Story story) {
        StringBuilder b = new StringBuilder(ofFilesAndGraces(story));
        Story x = story.again();
        b.append("\n  day ").append(x.day());
        for (int resource = 0; resource < 2; resource++) {
            b.append(" length ").append(x.graceLength(resource));
        }
        for (int user = 0; user < 6; user++) {
            b.append(x.isExempt(user) ? " exempt" : " -");
        }
        b.append("\n  refusals");
        for (int account = 0; account < 9; account++) {
            b.append(' ').append(x.refusals(account));
        }
        addEvents(b, x);
        return b.toString();
    }

    /** What a refused operation leaves as it is: all but the numbers of refusals and the log. */
    static String ofFilesAndGraces(Story story) {
        StringBuilder b = new StringBuilder();
        addAccounts(b, story.again());
        for (int directory = 0; directory < 10; directory++) {
            addDirectory(b, story.again(), directory);
        }
        return b.toString();
    }

    private static void addAccounts(StringBuilder b, Story x) {
        b.append("running ").append(x.runningGraces()).append(" over ").append(x.overGraces());
        for (int account = 0; account < 9; account++) {
            b.append("\n  account ").append(account);
            for (int resource = 0; resource < 2; resource++) {
                addPair(b, x, account, resource);
            }
            b.append(" deletions ").append(x.fewestDeletions(account));
            b.append(" largest ").append(x.largestFile(account));
        }
        b.append("\n  files ").append(x.fileCount());
    }

    private static void addPair(StringBuilder b, Story x, int account, int resource) {
        b.append(" [").append(x.usage(account, resource));
        b.append(' ').append(x.scannedUsage(account, resource));
        b.append(' ').append(x.softLimit(account, resource));
        b.append(' ').append(x.hardLimit(account, resource));
        b.append(' ').append(x.graceStart(account, resource));
        b.append(' ').append(x.graceLeft(account, resource));
        b.append(' ').append(x.available(account, resource)).append(']');
    }

    private static void addDirectory(StringBuilder b, Story x, int directory) {
        b.append(" sum ").append(x.directorySize(directory));
        for (int name = 0; name < 100; name++) {
            int size = x.sizeOf(directory, name);
            int owner = x.ownerOf(directory, name);
            int group = x.groupOf(directory, name);
            if (size != -1 || owner != -1 || group != -1) {
                b.append(' ').append(directory).append('/').append(name);
                b.append('=').append(size).append(',').append(owner).append(',').append(group);
            }
        }
    }

    private static void addEvents(StringBuilder b, Story x) {
        b.append("\n  events ").append(x.eventCount());
        for (int index = 0; index < 13; index++) {
            b.append(' ').append(x.event(index, 0));
            for (int part = 1; part < 4; part++) {
                b.append(',').append(x.event(index, part));
            }
        }
    }
}
