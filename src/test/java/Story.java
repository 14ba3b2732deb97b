import java.util.ArrayList;
import java.util.List;

/**
 * A manager with the calls that were made on it. The document promises nothing behind the call 512 of an object, so
 * whoever wants to ask more begins the story again, on a new object; and no story goes beyond that call.
 */
final class Story {
    private static final int MOST_CALLS = 512;

    interface Call {
        int on(StorageQuotas x);
    }

    private final StorageQuotas manager = new StorageQuotas();
    private final List<Call> calls = new ArrayList<>();

    /** The calls that threw are made again as well: they must have changed nothing. */
    Story again() {
        Story copy = new Story();
        for (Call call : calls) {
            try {
                copy.tell(call);
            } catch (IllegalStateException | IllegalArgumentException | IndexOutOfBoundsException e) {
                continue;
            }
        }
        return copy;
    }

    private int tell(Call call) {
        if (calls.size() == MOST_CALLS) {
            throw new AssertionError("a story of more than " + MOST_CALLS + " calls");
        }
        calls.add(call);
        return call.on(manager);
    }

    int create(int user, int group, int directory, int name, int blocks) {
        return tell(x -> x.create(user, group, directory, name, blocks));
    }

    int resize(int directory, int name, int blocks) {
        return tell(x -> x.resize(directory, name, blocks));
    }

    int delete(int directory, int name) {
        return tell(x -> x.delete(directory, name));
    }

    int move(int directory, int name, int user, int group) {
        return tell(x -> x.move(directory, name, user, group));
    }

    int setLimits(int account, int resource, int soft, int hard) {
        return tell(x -> x.setLimits(account, resource, soft, hard));
    }

    int setGrace(int resource, int days) {
        return tell(x -> x.setGrace(resource, days));
    }

    int restartGrace(int account, int resource) {
        return tell(x -> x.restartGrace(account, resource));
    }

    int setExempt(int user, boolean exempt) {
        return tell(x -> x.setExempt(user, exempt));
    }

    int nextDays(int days) {
        return tell(x -> x.nextDays(days));
    }

    int appendText(int character) {
        return tell(x -> x.appendText(character));
    }

    int clearText() {
        return tell(x -> x.clearText());
    }

    int errorPosition() {
        return tell(x -> x.errorPosition());
    }

    int runText() {
        return tell(x -> x.runText());
    }

    int undo() {
        return tell(x -> x.undo());
    }

    int save(int slot) {
        return tell(x -> x.save(slot));
    }

    int restore(int slot) {
        return tell(x -> x.restore(slot));
    }

    int usage(int account, int resource) {
        return tell(x -> x.usage(account, resource));
    }

    int scannedUsage(int account, int resource) {
        return tell(x -> x.scannedUsage(account, resource));
    }

    int softLimit(int account, int resource) {
        return tell(x -> x.softLimit(account, resource));
    }

    int hardLimit(int account, int resource) {
        return tell(x -> x.hardLimit(account, resource));
    }

    int graceStart(int account, int resource) {
        return tell(x -> x.graceStart(account, resource));
    }

    int graceLeft(int account, int resource) {
        return tell(x -> x.graceLeft(account, resource));
    }

    int available(int account, int resource) {
        return tell(x -> x.available(account, resource));
    }

    int refusals(int account) {
        return tell(x -> x.refusals(account));
    }

    int fewestDeletions(int account) {
        return tell(x -> x.fewestDeletions(account));
    }

    int sizeOf(int directory, int name) {
        return tell(x -> x.sizeOf(directory, name));
    }

    int ownerOf(int directory, int name) {
        return tell(x -> x.ownerOf(directory, name));
    }

    int groupOf(int directory, int name) {
        return tell(x -> x.groupOf(directory, name));
    }

    int fileCount() {
        return tell(x -> x.fileCount());
    }

    int directorySize(int directory) {
        return tell(x -> x.directorySize(directory));
    }

    int largestFile(int account) {
        return tell(x -> x.largestFile(account));
    }

    int ifCreated(int user, int group, int blocks) {
        return tell(x -> x.ifCreated(user, group, blocks));
    }

    int refusedOnDay(int user, int group, int blocks) {
        return tell(x -> x.refusedOnDay(user, group, blocks));
    }

    int day() {
        return tell(x -> x.day());
    }

    int graceLength(int resource) {
        return tell(x -> x.graceLength(resource));
    }

    boolean isExempt(int user) {
        return tell(x -> x.isExempt(user) ? 1 : 0) == 1;
    }

    int runningGraces() {
        return tell(x -> x.runningGraces());
    }

    int overGraces() {
        return tell(x -> x.overGraces());
    }

    int event(int index, int part) {
        return tell(x -> x.event(index, part));
    }

    int eventCount() {
        return tell(x -> x.eventCount());
    }

    int savedStates() {
        return tell(x -> x.savedStates());
    }

    int textLength() {
        return tell(x -> x.textLength());
    }
}
