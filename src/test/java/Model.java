import java.util.ArrayDeque;
import java.util.ArrayList;
import java.util.Arrays;
import java.util.List;
import java.util.TreeMap;

/**
 * The document once more, in the slowest and plainest form, to compare with: no usage is kept, all of it is summed
 * anew from the files, and a saved state is a whole new copy.
 */
final class Model {
    static final class File {
        final int owner;
        final int group;
        final int size;

        File(int owner, int group, int size) {
            this.owner = owner;
            this.group = group;
            this.size = size;
        }
    }

    private static final class World {
        int day = 0;
        int[] length = {7, 7};
        boolean[] exempt = new boolean[6];
        int[][] soft = new int[9][2];
        int[][] hard = new int[9][2];
        int[][] start = new int[9][2];
        int[] refusals = new int[9];
        TreeMap<Integer, File> files = new TreeMap<>();
        ArrayDeque<int[]> events = new ArrayDeque<>();

        World() {
            for (int[] row : start) {
                Arrays.fill(row, -1);
            }
        }

        World copy() {
            World w = new World();
            w.day = day;
            w.length = length.clone();
            w.exempt = exempt.clone();
            for (int a = 0; a < 9; a++) {
                w.soft[a] = soft[a].clone();
                w.hard[a] = hard[a].clone();
                w.start[a] = start[a].clone();
            }
            w.refusals = refusals.clone();
            w.files = new TreeMap<>(files);
            w.events = new ArrayDeque<>(events);
            return w;
        }
    }

    private World w = new World();
    private final ArrayDeque<World> saved = new ArrayDeque<>();
    private final World[] slots = new World[2];
    private String text = "";

    private static void index(boolean good) {
        if (!good) {
            throw new IndexOutOfBoundsException();
        }
    }

    private static void argument(boolean good) {
        if (!good) {
            throw new IllegalArgumentException();
        }
    }

    private static void state(boolean good) {
        if (!good) {
            throw new IllegalStateException();
        }
    }

    private static boolean in(int x, int low, int high) {
        return low <= x && x <= high;
    }

    private void keep() {
        saved.addLast(w.copy());
        if (saved.size() > 6) {
            saved.removeFirst();
        }
    }

    private void log(int kind, int account, int resource) {
        w.events.addFirst(new int[] {kind, account, resource, w.day});
        if (w.events.size() > 12) {
            w.events.removeLast();
        }
    }

    private static int sum(TreeMap<Integer, File> files, int account, int resource) {
        int sum = 0;
        for (File f : files.values()) {
            if (f.owner == account || f.group + 6 == account) {
                sum += resource == 0 ? f.size : 1;
            }
        }
        return sum;
    }

    private boolean over(int a, int r) {
        return w.start[a][r] >= 0 && w.day - w.start[a][r] >= w.length[r];
    }

    /** The reason for which the files may not become those after; the accounts are those of the actor and a group. */
    private int reason(TreeMap<Integer, File> after, int actor, int group) {
        if (w.exempt[actor]) {
            return 0;
        }
        int reason = 1;
        for (int a : new int[] {actor, 6 + group}) {
            for (int r = 0; r < 2; r++) {
                int then = sum(after, a, r);
                if (then > sum(w.files, a, r)) {
                    if (w.hard[a][r] != 0 && then > w.hard[a][r]) {
                        return reason;
                    }
                    if (over(a, r) && then > w.soft[a][r]) {
                        return reason + 1;
                    }
                }
                reason += 2;
            }
        }
        return 0;
    }

    private int become(TreeMap<Integer, File> after, int actor, int group) {
        int reason = reason(after, actor, group);
        if (reason != 0) {
            int a = reason < 5 ? actor : 6 + group;
            w.refusals[a]++;
            log(4, a, reason == 1 || reason == 2 || reason == 5 || reason == 6 ? 0 : 1);
            return reason;
        }
        w.files = after;
        for (int a = 0; a < 9; a++) {
            review(a, 0);
            review(a, 1);
        }
        return 0;
    }

    private void review(int a, int r) {
        int usage = sum(w.files, a, r);
        if (w.soft[a][r] != 0 && usage > w.soft[a][r] && w.start[a][r] < 0) {
            w.start[a][r] = w.day;
            log(1, a, r);
        } else if (w.start[a][r] >= 0 && (w.soft[a][r] == 0 || usage <= w.soft[a][r])) {
            w.start[a][r] = -1;
            log(2, a, r);
        }
    }

    private int doCreate(int u, int g, int d, int n, int blocks) {
        state(!w.files.containsKey(100 * d + n) && w.files.size() < 60);
        TreeMap<Integer, File> after = new TreeMap<>(w.files);
        after.put(100 * d + n, new File(u, g, blocks));
        return become(after, u, g);
    }

    private int doResize(int d, int n, int blocks) {
        File f = w.files.get(100 * d + n);
        state(f != null);
        TreeMap<Integer, File> after = new TreeMap<>(w.files);
        after.put(100 * d + n, new File(f.owner, f.group, blocks));
        return become(after, f.owner, f.group);
    }

    private int doDelete(int d, int n) {
        File f = w.files.get(100 * d + n);
        state(f != null);
        TreeMap<Integer, File> after = new TreeMap<>(w.files);
        after.remove(100 * d + n);
        become(after, f.owner, f.group);
        return f.size;
    }

    private int doMove(int d, int n, int u, int g) {
        File f = w.files.get(100 * d + n);
        state(f != null);
        TreeMap<Integer, File> after = new TreeMap<>(w.files);
        after.put(100 * d + n, new File(u, g, f.size));
        return become(after, u, g);
    }

    private int doDays(int days) {
        state(w.day + days <= 10000);
        int ended = 0;
        for (int i = 0; i < days; i++) {
            w.day++;
            for (int a = 0; a < 9; a++) {
                for (int r = 0; r < 2; r++) {
                    if (w.start[a][r] >= 0 && w.day - w.start[a][r] == w.length[r]) {
                        log(3, a, r);
                        ended++;
                    }
                }
            }
        }
        return ended;
    }

    /** Runs a call that may find that it can't be done, and saves the state only if it can. */
    private int undoable(Check.Call call) {
        World before = w.copy();
        int answer = call.answer();
        saved.addLast(before);
        if (saved.size() > 6) {
            saved.removeFirst();
        }
        return answer;
    }

    int create(int u, int g, int d, int n, int blocks) {
        index(in(u, 0, 5) && in(g, 0, 2) && in(d, 0, 9) && in(n, 0, 99));
        argument(in(blocks, 0, 5000));
        return undoable(() -> doCreate(u, g, d, n, blocks));
    }

    int resize(int d, int n, int blocks) {
        index(in(d, 0, 9) && in(n, 0, 99));
        argument(in(blocks, 0, 5000));
        return undoable(() -> doResize(d, n, blocks));
    }

    int delete(int d, int n) {
        index(in(d, 0, 9) && in(n, 0, 99));
        return undoable(() -> doDelete(d, n));
    }

    int move(int d, int n, int u, int g) {
        index(in(d, 0, 9) && in(n, 0, 99) && in(u, 0, 5) && in(g, 0, 2));
        return undoable(() -> doMove(d, n, u, g));
    }

    int setLimits(int a, int r, int soft, int hard) {
        index(in(a, 0, 8) && in(r, 0, 1));
        argument(in(soft, 0, 100000) && in(hard, 0, 100000) && (soft == 0 || hard == 0 || soft <= hard));
        keep();
        w.soft[a][r] = soft;
        w.hard[a][r] = hard;
        review(a, r);
        return sum(w.files, a, r);
    }

    int setGrace(int r, int days) {
        index(in(r, 0, 1));
        argument(in(days, 1, 60));
        keep();
        int before = w.length[r];
        w.length[r] = days;
        return before;
    }

    int restartGrace(int a, int r) {
        index(in(a, 0, 8) && in(r, 0, 1));
        state(w.start[a][r] >= 0);
        keep();
        int before = w.start[a][r];
        w.start[a][r] = w.day;
        return before;
    }

    int setExempt(int u, boolean exempt) {
        index(in(u, 0, 5));
        keep();
        w.exempt[u] = exempt;
        int n = 0;
        for (boolean b : w.exempt) {
            n += b ? 1 : 0;
        }
        return n;
    }

    int nextDays(int days) {
        argument(in(days, 1, 100));
        return undoable(() -> doDays(days));
    }

    int appendText(int c) {
        argument(in(c, 32, 126));
        state(text.length() < 100);
        text += (char) c;
        return text.length();
    }

    int clearText() {
        int before = text.length();
        text = "";
        return before;
    }

    int errorPosition() {
        return Grammar.errorOf(text);
    }

    int runText() {
        state(errorPosition() == -1);
        keep();
        int executed = 0;
        for (String command : text.split(";")) {
            String[] parts = command.substring(1).split(",");
            int[] n = new int[parts.length];
            for (int i = 0; i < n.length; i++) {
                n[i] = Integer.parseInt(parts[i]);
            }
            try {
                execute(command.charAt(0), n);
            } catch (IllegalStateException e) {
                return executed;
            }
            executed++;
        }
        return executed;
    }

    private void execute(char kind, int[] n) {
        if (kind == 'c') {
            doCreate(n[0], n[1], n[2], n[3], n[4]);
        } else if (kind == 'r') {
            doResize(n[0], n[1], n[2]);
        } else if (kind == 'd') {
            doDelete(n[0], n[1]);
        } else if (kind == 'm') {
            doMove(n[0], n[1], n[2], n[3]);
        } else {
            doDays(n[0]);
        }
    }

    int undo() {
        state(!saved.isEmpty());
        w = saved.removeLast();
        return saved.size();
    }

    int save(int slot) {
        index(in(slot, 0, 1));
        slots[slot] = w.copy();
        return w.day;
    }

    int restore(int slot) {
        index(in(slot, 0, 1));
        state(slots[slot] != null);
        keep();
        w = slots[slot].copy();
        return w.day;
    }

    int usage(int a, int r) {
        index(in(a, 0, 8) && in(r, 0, 1));
        return sum(w.files, a, r);
    }

    int softLimit(int a, int r) {
        index(in(a, 0, 8) && in(r, 0, 1));
        return w.soft[a][r];
    }

    int hardLimit(int a, int r) {
        index(in(a, 0, 8) && in(r, 0, 1));
        return w.hard[a][r];
    }

    int graceStart(int a, int r) {
        index(in(a, 0, 8) && in(r, 0, 1));
        return w.start[a][r];
    }

    int graceLeft(int a, int r) {
        index(in(a, 0, 8) && in(r, 0, 1));
        if (w.start[a][r] < 0) {
            return -1;
        }
        int left = 0;
        while (w.day + left - w.start[a][r] < w.length[r]) {
            left++;
        }
        return left;
    }

    int available(int a, int r) {
        index(in(a, 0, 8) && in(r, 0, 1));
        int usage = sum(w.files, a, r);
        for (int d = 1; d <= 100001; d++) {
            if (w.hard[a][r] != 0 && usage + d > w.hard[a][r] || over(a, r) && usage + d > w.soft[a][r]) {
                return d - 1;
            }
        }
        return -2;
    }

    int refusals(int a) {
        index(in(a, 0, 8));
        return w.refusals[a];
    }

    int fewestDeletions(int a) {
        index(in(a, 0, 8));
        if (w.soft[a][0] == 0) {
            return 0;
        }
        List<Integer> sizes = new ArrayList<>();
        for (File f : w.files.values()) {
            if (f.owner == a || f.group + 6 == a) {
                sizes.add(f.size);
            }
        }
        sizes.sort(null);
        int kept = sizes.size();
        while (kept > 0) {
            int sum = 0;
            for (int size : sizes.subList(0, kept)) {
                sum += size;
            }
            if (sum <= w.soft[a][0]) {
                break;
            }
            kept--;
        }
        return sizes.size() - kept;
    }

    private File file(int d, int n) {
        index(in(d, 0, 9) && in(n, 0, 99));
        return w.files.get(100 * d + n);
    }

    int sizeOf(int d, int n) {
        File f = file(d, n);
        return f == null ? -1 : f.size;
    }

    int ownerOf(int d, int n) {
        File f = file(d, n);
        return f == null ? -1 : f.owner;
    }

    int groupOf(int d, int n) {
        File f = file(d, n);
        return f == null ? -1 : f.group;
    }

    int fileCount() {
        return w.files.size();
    }

    int directorySize(int d) {
        index(in(d, 0, 9));
        int sum = 0;
        for (File f : w.files.subMap(100 * d, 100 * d + 100).values()) {
            sum += f.size;
        }
        return sum;
    }

    int largestFile(int a) {
        index(in(a, 0, 8));
        int best = -1;
        for (int key : w.files.descendingKeySet()) {
            File f = w.files.get(key);
            if ((f.owner == a || f.group + 6 == a) && (best < 0 || f.size >= w.files.get(best).size)) {
                best = key;
            }
        }
        return best;
    }

    int ifCreated(int u, int g, int blocks) {
        index(in(u, 0, 5) && in(g, 0, 2));
        argument(in(blocks, 0, 5000));
        TreeMap<Integer, File> after = new TreeMap<>(w.files);
        after.put(-1, new File(u, g, blocks));
        return reason(after, u, g);
    }

    int refusedOnDay(int u, int g, int blocks) {
        index(in(u, 0, 5) && in(g, 0, 2));
        argument(in(blocks, 1, 5000));
        World before = w;
        w = before.copy();
        try {
            for (int n = 1; n <= 400; n++) {
                w.day++;
                TreeMap<Integer, File> after = new TreeMap<>(w.files);
                // The growing file exists from the first day on, so that its number is no increase for FILES.
                after.put(-1, new File(u, g, n * blocks));
                if (n == 1) {
                    w.files.put(-1, new File(u, g, 0));
                }
                if (become(after, u, g) != 0) {
                    return n;
                }
            }
            return -1;
        } finally {
            w = before;
        }
    }

    int day() {
        return w.day;
    }

    int graceLength(int r) {
        index(in(r, 0, 1));
        return w.length[r];
    }

    int isExempt(int u) {
        index(in(u, 0, 5));
        return w.exempt[u] ? 1 : 0;
    }

    int runningGraces() {
        int n = 0;
        for (int[] row : w.start) {
            n += (row[0] >= 0 ? 1 : 0) + (row[1] >= 0 ? 1 : 0);
        }
        return n;
    }

    int overGraces() {
        int n = 0;
        for (int a = 0; a < 9; a++) {
            n += (over(a, 0) ? 1 : 0) + (over(a, 1) ? 1 : 0);
        }
        return n;
    }

    int event(int i, int part) {
        index(i >= 0);
        argument(in(part, 0, 3));
        return i >= w.events.size() ? -1 : new ArrayList<>(w.events).get(i)[part];
    }

    int eventCount() {
        return w.events.size();
    }

    int savedStates() {
        return saved.size();
    }

    int textLength() {
        return text.length();
    }
}
