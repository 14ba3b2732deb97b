/** All that the queries tell of a manager, as one text, to compare two moments or two managers. */
final class Picture {
    private Picture() {
    }

    /** The state, and what stands beside it: the text buffer and the number of saved states. */
    static String of(StorageQuotas x) {
        return ofState(x) + " saved " + x.savedStates() + " text " + x.textLength() + " error " + x.errorPosition();
    }

    static String ofState(StorageQuotas x) {
        StringBuilder b = new StringBuilder();
        b.append("day ").append(x.day());
        for (int resource = 0; resource < 2; resource++) {
            b.append(" length ").append(x.graceLength(resource));
        }
        for (int user = 0; user < 6; user++) {
            b.append(x.isExempt(user) ? " exempt" : " -");
        }
        b.append(" running ").append(x.runningGraces()).append(" over ").append(x.overGraces());
        for (int account = 0; account < 9; account++) {
            b.append("\n  account ").append(account);
            for (int resource = 0; resource < 2; resource++) {
                addPair(b, x, account, resource);
            }
            b.append(" refusals ").append(x.refusals(account));
            b.append(" deletions ").append(x.fewestDeletions(account));
            b.append(" largest ").append(x.largestFile(account));
        }
        addFiles(b, x);
        addEvents(b, x);
        return b.toString();
    }

    private static void addPair(StringBuilder b, StorageQuotas x, int account, int resource) {
        b.append(" [").append(x.usage(account, resource));
        b.append(' ').append(x.scannedUsage(account, resource));
        b.append(' ').append(x.softLimit(account, resource));
        b.append(' ').append(x.hardLimit(account, resource));
        b.append(' ').append(x.graceStart(account, resource));
        b.append(' ').append(x.graceLeft(account, resource));
        b.append(' ').append(x.available(account, resource)).append(']');
    }

    private static void addFiles(StringBuilder b, StorageQuotas x) {
        b.append("\n  files ").append(x.fileCount());
        for (int directory = 0; directory < 10; directory++) {
            b.append(" sum ").append(x.directorySize(directory));
            for (int name = 0; name < 100; name++) {
                if (x.sizeOf(directory, name) != -1 || x.ownerOf(directory, name) != -1
                        || x.groupOf(directory, name) != -1) {
                    b.append(' ').append(directory).append('/').append(name);
                    b.append('=').append(x.sizeOf(directory, name));
                    b.append(',').append(x.ownerOf(directory, name));
                    b.append(',').append(x.groupOf(directory, name));
                }
            }
        }
    }

    private static void addEvents(StringBuilder b, StorageQuotas x) {
        b.append("\n  events ").append(x.eventCount());
        for (int index = 0; index < 13; index++) {
            b.append(' ').append(x.event(index, 0));
            for (int part = 1; part < 4; part++) {
                b.append(',').append(x.event(index, part));
            }
        }
    }
}
