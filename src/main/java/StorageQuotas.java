/** A manager of storage quotas: soft limits, hard limits and grace periods for users and groups. */
public final class StorageQuotas {
    public static final int NONE = -1;
    public static final int UNLIMITED = -2;
    public static final int BLOCKS = 0, FILES = 1;
    public static final int STARTED = 1, CLEARED = 2, ENDED = 3, REFUSED = 4;

    private static final int USERS = 6;
    private static final int GROUPS = 3;
    private static final int ACCOUNTS = USERS + GROUPS;
    private static final int RESOURCES = 2;
    private static final int PAIRS = ACCOUNTS * RESOURCES;
    private static final int DIRECTORIES = 10;
    private static final int NAMES = 100;
    private static final int MOST_FILES = 60;
    private static final int LARGEST_SIZE = 5000;
    private static final int LARGEST_LIMIT = 100000;
    private static final int FIRST_GRACE = 7;
    private static final int LONGEST_GRACE = 60;
    private static final int LAST_DAY = 10000;
    private static final int MOST_DAYS = 100;
    private static final int GROWTH_DAYS = 400;
    private static final int MOST_EVENTS = 12;
    private static final int EVENT_PARTS = 4;
    private static final int MOST_SAVED = 6;
    private static final int SLOTS = 2;
    private static final int MOST_CHARACTERS = 100;
    private static final int LEAST_CHARACTER = 32;
    private static final int GREATEST_CHARACTER = 126;

    // The greatest number that each place of a command takes, in the order of the text.
    private static final int[] CREATE_NUMBERS = {5, 2, 9, 99, 5000};
    private static final int[] RESIZE_NUMBERS = {9, 99, 5000};
    private static final int[] DELETE_NUMBERS = {9, 99};
    private static final int[] MOVE_NUMBERS = {9, 99, 5, 2};
    private static final int[] DAYS_NUMBERS = {100};
    private static final int[] NO_COMMAND = {};
    private static final int MOST_NUMBERS = 5;

    // All rows are made here once, so that no call makes any.
    private final State state;
    private final State trial;
    private final State[] saved;
    private int savedCount;
    private final State[] slots;
    private final boolean[] slotFilled;
    private final TextReader text;
    private final int[] sizeRow;

    public StorageQuotas() {
        state = new State();
        trial = new State();
        saved = new State[MOST_SAVED];
        for (int i = 0; i < MOST_SAVED; i++) {
            saved[i] = new State();
        }
        savedCount = 0;
        slots = new State[SLOTS];
        for (int i = 0; i < SLOTS; i++) {
            slots[i] = new State();
        }
        slotFilled = new boolean[SLOTS];
        text = new TextReader();
        sizeRow = new int[MOST_FILES];
    }

    // ---- operations on files

    public int create(int user, int group, int directory, int name, int blocks)
            throws IndexOutOfBoundsException, IllegalArgumentException, IllegalStateException {
        requireUser(user);
        requireGroup(group);
        int key = requireKey(directory, name);
        requireSize(blocks);
        if (!state.canAdd(key)) {
            throw new IllegalStateException("the file exists, or there are 60 files");
        }
        keepState();
        return state.addFile(user, group, key, blocks);
    }

    public int resize(int directory, int name, int blocks)
            throws IndexOutOfBoundsException, IllegalArgumentException, IllegalStateException {
        int key = requireKey(directory, name);
        requireSize(blocks);
        int place = requireFile(key);
        keepState();
        return state.resizeFile(place, blocks);
    }

    public int delete(int directory, int name) throws IndexOutOfBoundsException, IllegalStateException {
        int key = requireKey(directory, name);
        int place = requireFile(key);
        keepState();
        return state.removeFile(place);
    }

    public int move(int directory, int name, int user, int group)
            throws IndexOutOfBoundsException, IllegalStateException {
        int key = requireKey(directory, name);
        requireUser(user);
        requireGroup(group);
        int place = requireFile(key);
        keepState();
        return state.moveFile(place, user, group);
    }

    // ---- administration

    public int setLimits(int account, int resource, int soft, int hard)
            throws IndexOutOfBoundsException, IllegalArgumentException {
        int pair = requirePair(account, resource);
        requireLimits(soft, hard);
        keepState();
        state.softs[pair] = soft;
        state.hards[pair] = hard;
        state.review(pair);
        return state.usages[pair];
    }

    public int setGrace(int resource, int days) throws IndexOutOfBoundsException, IllegalArgumentException {
        requireResource(resource);
        if (days < 1 || days > LONGEST_GRACE) {
            throw new IllegalArgumentException("the number of days is out of range");
        }
        keepState();
        int previous = state.graceLengths[resource];
        state.graceLengths[resource] = days;
        return previous;
    }

    public int restartGrace(int account, int resource) throws IndexOutOfBoundsException, IllegalStateException {
        int pair = requirePair(account, resource);
        if (!state.isRunning(pair)) {
            throw new IllegalStateException("no grace period is running");
        }
        keepState();
        int previous = state.starts[pair];
        state.starts[pair] = state.today;
        return previous;
    }

    public int setExempt(int user, boolean exempt) throws IndexOutOfBoundsException {
        requireUser(user);
        keepState();
        state.exempted[user] = exempt;
        return state.countExempted();
    }

    public int nextDays(int days) throws IllegalArgumentException, IllegalStateException {
        if (days < 1 || days > MOST_DAYS) {
            throw new IllegalArgumentException("the number of days is out of range");
        }
        if (!state.canPass(days)) {
            throw new IllegalStateException("the current day would become too great");
        }
        keepState();
        return state.passDays(days);
    }

    // ---- texts

    public int appendText(int character) throws IllegalArgumentException, IllegalStateException {
        if (character < LEAST_CHARACTER || character > GREATEST_CHARACTER) {
            throw new IllegalArgumentException("the character code is out of range");
        }
        if (text.length >= MOST_CHARACTERS) {
            throw new IllegalStateException("the text is full");
        }
        text.characters[text.length] = (char) character;
        text.length++;
        return text.length;
    }

    public int clearText() {
        int before = text.length;
        text.length = 0;
        return before;
    }

    public int errorPosition() {
        return text.findError();
    }

    public int runText() throws IllegalStateException {
        if (text.findError() != NONE) {
            throw new IllegalStateException("the text is not valid");
        }
        keepState();
        text.position = 0;
        int executed = 0;
        boolean more = true;
        while (more && executed < MOST_CHARACTERS) {
            more = text.readCommand() && executeCommand();
            if (more) {
                executed++;
                more = text.readCharacter(';');
            }
        }
        return executed;
    }

    // ---- undo and slots

    public int undo() throws IllegalStateException {
        if (savedCount <= 0) {
            throw new IllegalStateException("there is no saved state");
        }
        savedCount--;
        state.copyFrom(saved[savedCount]);
        return savedCount;
    }

    public int save(int slot) throws IndexOutOfBoundsException {
        requireSlot(slot);
        slots[slot].copyFrom(state);
        slotFilled[slot] = true;
        return state.today;
    }

    public int restore(int slot) throws IndexOutOfBoundsException, IllegalStateException {
        requireSlot(slot);
        if (!slotFilled[slot]) {
            throw new IllegalStateException("the slot is empty");
        }
        keepState();
        state.copyFrom(slots[slot]);
        return state.today;
    }

    // ---- queries about accounts

    public int usage(int account, int resource) throws IndexOutOfBoundsException {
        return state.usages[requirePair(account, resource)];
    }

    public int scannedUsage(int account, int resource) throws IndexOutOfBoundsException {
        requirePair(account, resource);
        return state.files.scan(account, resource);
    }

    public int softLimit(int account, int resource) throws IndexOutOfBoundsException {
        return state.softs[requirePair(account, resource)];
    }

    public int hardLimit(int account, int resource) throws IndexOutOfBoundsException {
        return state.hards[requirePair(account, resource)];
    }

    public int graceStart(int account, int resource) throws IndexOutOfBoundsException {
        return state.starts[requirePair(account, resource)];
    }

    public int graceLeft(int account, int resource) throws IndexOutOfBoundsException {
        int pair = requirePair(account, resource);
        if (!state.isRunning(pair)) {
            return NONE;
        }
        return Math.max(0, state.graceLengths[resource] - state.daysRunning(pair));
    }

    public int available(int account, int resource) throws IndexOutOfBoundsException {
        return state.greatestIncrease(requirePair(account, resource));
    }

    public int refusals(int account) throws IndexOutOfBoundsException {
        requireAccount(account);
        return state.refusalCounts[account];
    }

    public int fewestDeletions(int account) throws IndexOutOfBoundsException {
        requireAccount(account);
        int pair = pairOf(account, BLOCKS);
        int soft = state.softs[pair];
        if (soft == 0) {
            return 0;
        }
        int count = state.files.listSizes(account, sizeRow);
        int rest = state.usages[pair];
        int deleted = 0;
        // The largest files first: no other choice frees as much with as few files.
        while (rest > soft && deleted < count) {
            rest -= takeLargest(sizeRow, count);
            deleted++;
        }
        return deleted;
    }

    // ---- queries about files

    public int sizeOf(int directory, int name) throws IndexOutOfBoundsException {
        int place = state.files.find(requireKey(directory, name));
        return place == NONE ? NONE : state.files.sizes[place];
    }

    public int ownerOf(int directory, int name) throws IndexOutOfBoundsException {
        int place = state.files.find(requireKey(directory, name));
        return place == NONE ? NONE : state.files.owners[place];
    }

    public int groupOf(int directory, int name) throws IndexOutOfBoundsException {
        int place = state.files.find(requireKey(directory, name));
        return place == NONE ? NONE : state.files.groups[place];
    }

    public int fileCount() {
        return state.files.count;
    }

    public int directorySize(int directory) throws IndexOutOfBoundsException {
        requireDirectory(directory);
        return state.files.sumDirectory(directory);
    }

    public int largestFile(int account) throws IndexOutOfBoundsException {
        requireAccount(account);
        return state.files.findLargest(account);
    }

    // ---- queries about what would happen

    public int ifCreated(int user, int group, int blocks)
            throws IndexOutOfBoundsException, IllegalArgumentException {
        requireUser(user);
        requireGroup(group);
        requireSize(blocks);
        return state.firstRefusal(user, blocks, 1, group, blocks, 1);
    }

    public int refusedOnDay(int user, int group, int blocks)
            throws IndexOutOfBoundsException, IllegalArgumentException {
        requireUser(user);
        requireGroup(group);
        if (blocks < 1 || blocks > LARGEST_SIZE) {
            throw new IllegalArgumentException("the number of blocks is out of range");
        }
        trial.copyFrom(state);
        for (int n = 1; n <= GROWTH_DAYS; n++) {
            trial.today++;
            if (trial.changeBlocks(user, group, blocks) != 0) {
                return n;
            }
        }
        return NONE;
    }

    // ---- queries about the whole manager

    public int day() {
        return state.today;
    }

    public int graceLength(int resource) throws IndexOutOfBoundsException {
        requireResource(resource);
        return state.graceLengths[resource];
    }

    public boolean isExempt(int user) throws IndexOutOfBoundsException {
        requireUser(user);
        return state.exempted[user];
    }

    public int runningGraces() {
        int running = 0;
        for (int pair = 0; pair < PAIRS; pair++) {
            if (state.isRunning(pair)) {
                running++;
            }
        }
        return running;
    }

    public int overGraces() {
        int over = 0;
        for (int pair = 0; pair < PAIRS; pair++) {
            if (state.isOver(pair)) {
                over++;
            }
        }
        return over;
    }

    public int event(int index, int part) throws IndexOutOfBoundsException, IllegalArgumentException {
        if (index < 0) {
            throw new IndexOutOfBoundsException("the index is negative");
        }
        if (part < 0 || part >= EVENT_PARTS) {
            throw new IllegalArgumentException("an event has the parts 0 to 3");
        }
        return state.log.partOf(index, part);
    }

    public int eventCount() {
        return state.log.count;
    }

    public int savedStates() {
        return savedCount;
    }

    public int textLength() {
        return text.length;
    }

    // ---- arguments

    private static void requireUser(int user) {
        if (user < 0 || user >= USERS) {
            throw new IndexOutOfBoundsException("no such user");
        }
    }

    private static void requireGroup(int group) {
        if (group < 0 || group >= GROUPS) {
            throw new IndexOutOfBoundsException("no such group");
        }
    }

    private static void requireAccount(int account) {
        if (account < 0 || account >= ACCOUNTS) {
            throw new IndexOutOfBoundsException("no such account");
        }
    }

    private static void requireResource(int resource) {
        if (resource < 0 || resource >= RESOURCES) {
            throw new IndexOutOfBoundsException("no such resource");
        }
    }

    private static int requirePair(int account, int resource) {
        requireAccount(account);
        requireResource(resource);
        return pairOf(account, resource);
    }

    private static void requireDirectory(int directory) {
        if (directory < 0 || directory >= DIRECTORIES) {
            throw new IndexOutOfBoundsException("no such directory");
        }
    }

    private static int requireKey(int directory, int name) {
        requireDirectory(directory);
        if (name < 0 || name >= NAMES) {
            throw new IndexOutOfBoundsException("no such name");
        }
        return keyOf(directory, name);
    }

    private static void requireSize(int blocks) {
        if (blocks < 0 || blocks > LARGEST_SIZE) {
            throw new IllegalArgumentException("the size is out of range");
        }
    }

    private static void requireLimits(int soft, int hard) {
        if (soft < 0 || soft > LARGEST_LIMIT || hard < 0 || hard > LARGEST_LIMIT) {
            throw new IllegalArgumentException("a limit is out of range");
        }
        if (soft != 0 && hard != 0 && soft > hard) {
            throw new IllegalArgumentException("the soft limit is greater than the hard limit");
        }
    }

    private static void requireSlot(int slot) {
        if (slot < 0 || slot >= SLOTS) {
            throw new IndexOutOfBoundsException("no such slot");
        }
    }

    private int requireFile(int key) {
        int place = state.files.find(key);
        if (place == NONE) {
            throw new IllegalStateException("there is no such file");
        }
        return place;
    }

    // ---- helpers

    // The pairs ascend as the document examines them: by account, and there BLOCKS before FILES.
    private static int pairOf(int account, int resource) {
        return account * RESOURCES + resource;
    }

    private static int groupAccount(int group) {
        return USERS + group;
    }

    // The keys ascend by directory, and there by name.
    private static int keyOf(int directory, int name) {
        return directory * NAMES + name;
    }

    private void keepState() {
        if (savedCount < MOST_SAVED) {
            saved[savedCount].copyFrom(state);
            savedCount++;
            return;
        }
        State oldest = saved[0];
        for (int i = 1; i < MOST_SAVED; i++) {
            saved[i - 1] = saved[i];
        }
        saved[MOST_SAVED - 1] = oldest;
        oldest.copyFrom(state);
    }

    // Answers false where the method of the face would throw; the reader has tested the numbers.
    private boolean executeCommand() {
        int[] numbers = text.numbers;
        if (text.command == 'c') {
            int key = keyOf(numbers[2], numbers[3]);
            boolean possible = state.canAdd(key);
            if (possible) {
                state.addFile(numbers[0], numbers[1], key, numbers[4]);
            }
            return possible;
        }
        if (text.command == 'n') {
            boolean possible = state.canPass(numbers[0]);
            if (possible) {
                state.passDays(numbers[0]);
            }
            return possible;
        }
        int place = state.files.find(keyOf(numbers[0], numbers[1]));
        if (place == NONE) {
            return false;
        }
        if (text.command == 'r') {
            state.resizeFile(place, numbers[2]);
        } else if (text.command == 'm') {
            state.moveFile(place, numbers[2], numbers[3]);
        } else {
            state.removeFile(place);
        }
        return true;
    }

    private static int takeLargest(int[] row, int count) {
        int largest = 0;
        for (int i = 1; i < count; i++) {
            if (row[i] > row[largest]) {
                largest = i;
            }
        }
        int size = row[largest];
        row[largest] = NONE;
        return size;
    }

    /** Everything that undo and the slots bring back. */
    private static final class State {
        private int today;
        private final int[] graceLengths;
        private final boolean[] exempted;
        private final int[] usages;
        private final int[] softs;
        private final int[] hards;
        private final int[] starts;
        private final int[] refusalCounts;
        private final FileTable files;
        private final EventLog log;

        private State() {
            today = 0;
            graceLengths = new int[RESOURCES];
            for (int i = 0; i < RESOURCES; i++) {
                graceLengths[i] = FIRST_GRACE;
            }
            exempted = new boolean[USERS];
            usages = new int[PAIRS];
            softs = new int[PAIRS];
            hards = new int[PAIRS];
            starts = new int[PAIRS];
            for (int i = 0; i < PAIRS; i++) {
                starts[i] = NONE;
            }
            refusalCounts = new int[ACCOUNTS];
            files = new FileTable();
            log = new EventLog();
        }

        private void copyFrom(State other) {
            today = other.today;
            System.arraycopy(other.graceLengths, 0, graceLengths, 0, RESOURCES);
            for (int user = 0; user < USERS; user++) {
                exempted[user] = other.exempted[user];
            }
            System.arraycopy(other.usages, 0, usages, 0, PAIRS);
            System.arraycopy(other.softs, 0, softs, 0, PAIRS);
            System.arraycopy(other.hards, 0, hards, 0, PAIRS);
            System.arraycopy(other.starts, 0, starts, 0, PAIRS);
            System.arraycopy(other.refusalCounts, 0, refusalCounts, 0, ACCOUNTS);
            files.copyRows(other.files);
            log.copyEvents(other.log);
        }

        private boolean canAdd(int key) {
            return files.count < MOST_FILES && files.find(key) == NONE;
        }

        private int addFile(int user, int group, int key, int blocks) {
            int reason = firstRefusal(user, blocks, 1, group, blocks, 1);
            if (reason != 0) {
                noteRefusal(reason, user, group);
                return reason;
            }
            files.add(user, group, key, blocks);
            charge(user, blocks, 1);
            charge(groupAccount(group), blocks, 1);
            reviewAll();
            return 0;
        }

        private int resizeFile(int place, int blocks) {
            int change = blocks - files.sizes[place];
            int reason = changeBlocks(files.owners[place], files.groups[place], change);
            if (reason == 0) {
                files.sizes[place] = blocks;
            }
            return reason;
        }

        private int changeBlocks(int user, int group, int change) {
            int reason = firstRefusal(user, change, 0, group, change, 0);
            if (reason != 0) {
                noteRefusal(reason, user, group);
                return reason;
            }
            charge(user, change, 0);
            charge(groupAccount(group), change, 0);
            reviewAll();
            return 0;
        }

        private int removeFile(int place) {
            int size = files.sizes[place];
            charge(files.owners[place], -size, -1);
            charge(groupAccount(files.groups[place]), -size, -1);
            files.remove(place);
            reviewAll();
            return size;
        }

        private int moveFile(int place, int user, int group) {
            int size = files.sizes[place];
            int userFiles = user == files.owners[place] ? 0 : 1;
            int groupFiles = group == files.groups[place] ? 0 : 1;
            int userBlocks = userFiles * size;
            int groupBlocks = groupFiles * size;
            int reason = firstRefusal(user, userBlocks, userFiles, group, groupBlocks, groupFiles);
            if (reason != 0) {
                noteRefusal(reason, user, group);
                return reason;
            }
            charge(files.owners[place], -userBlocks, -userFiles);
            charge(user, userBlocks, userFiles);
            charge(groupAccount(files.groups[place]), -groupBlocks, -groupFiles);
            charge(groupAccount(group), groupBlocks, groupFiles);
            files.owners[place] = user;
            files.groups[place] = group;
            reviewAll();
            return 0;
        }

        private void charge(int account, int blocks, int number) {
            usages[pairOf(account, BLOCKS)] += blocks;
            usages[pairOf(account, FILES)] += number;
        }

        // The acting user is always the one whose account would grow.
        private int firstRefusal(int user, int userBlocks, int userFiles,
                int group, int groupBlocks, int groupFiles) {
            if (exempted[user]) {
                return 0;
            }
            int account = groupAccount(group);
            int cause = causeOf(pairOf(user, BLOCKS), userBlocks);
            if (cause != 0) {
                return cause;
            }
            cause = causeOf(pairOf(user, FILES), userFiles);
            if (cause != 0) {
                return 2 + cause;
            }
            cause = causeOf(pairOf(account, BLOCKS), groupBlocks);
            if (cause != 0) {
                return 4 + cause;
            }
            cause = causeOf(pairOf(account, FILES), groupFiles);
            return cause == 0 ? 0 : 6 + cause;
        }

        // 1 for the hard limit, 2 for the grace period, 0 if the increase is not refused.
        private int causeOf(int pair, int increase) {
            if (increase <= 0) {
                return 0;
            }
            int after = usages[pair] + increase;
            if (hards[pair] != 0 && after > hards[pair]) {
                return 1;
            }
            return isOver(pair) && after > softs[pair] ? 2 : 0;
        }

        private int greatestIncrease(int pair) {
            boolean over = isOver(pair);
            if (hards[pair] == 0 && !over) {
                return UNLIMITED;
            }
            int bound = LARGEST_LIMIT;
            if (hards[pair] != 0) {
                bound = hards[pair];
            }
            if (over) {
                bound = Math.min(bound, softs[pair]);
            }
            return Math.max(0, bound - usages[pair]);
        }

        private void noteRefusal(int reason, int user, int group) {
            int account = reason <= 4 ? user : groupAccount(group);
            int resource = (reason - 1) / 2 % RESOURCES;
            refusalCounts[account]++;
            log.add(REFUSED, pairOf(account, resource), today);
        }

        private void reviewAll() {
            for (int pair = 0; pair < PAIRS; pair++) {
                review(pair);
            }
        }

        private void review(int pair) {
            boolean exceeded = softs[pair] != 0 && usages[pair] > softs[pair];
            if (exceeded && !isRunning(pair)) {
                starts[pair] = today;
                log.add(STARTED, pair, today);
            } else if (!exceeded && isRunning(pair)) {
                starts[pair] = NONE;
                log.add(CLEARED, pair, today);
            }
        }

        private boolean isRunning(int pair) {
            return starts[pair] != NONE;
        }

        private int daysRunning(int pair) {
            return today - starts[pair];
        }

        private boolean isOver(int pair) {
            return starts[pair] != NONE && today - starts[pair] >= graceLengths[pair % RESOURCES];
        }

        private boolean canPass(int days) {
            return today + days <= LAST_DAY;
        }

        private int passDays(int days) {
            int ended = 0;
            for (int i = 0; i < days; i++) {
                today++;
                ended += beginDay();
            }
            return ended;
        }

        private int beginDay() {
            int ended = 0;
            for (int pair = 0; pair < PAIRS; pair++) {
                if (isRunning(pair) && daysRunning(pair) == graceLengths[pair % RESOURCES]) {
                    log.add(ENDED, pair, today);
                    ended++;
                }
            }
            return ended;
        }

        private int countExempted() {
            int number = 0;
            for (int user = 0; user < USERS; user++) {
                if (exempted[user]) {
                    number++;
                }
            }
            return number;
        }
    }

    /** The files that exist, in no order, in the places 0 to count - 1. */
    private static final class FileTable {
        private int count;
        private final int[] keys;
        private final int[] owners;
        private final int[] groups;
        private final int[] sizes;

        private FileTable() {
            count = 0;
            keys = new int[MOST_FILES];
            owners = new int[MOST_FILES];
            groups = new int[MOST_FILES];
            sizes = new int[MOST_FILES];
        }

        private void copyRows(FileTable other) {
            count = other.count;
            System.arraycopy(other.keys, 0, keys, 0, MOST_FILES);
            System.arraycopy(other.owners, 0, owners, 0, MOST_FILES);
            System.arraycopy(other.groups, 0, groups, 0, MOST_FILES);
            System.arraycopy(other.sizes, 0, sizes, 0, MOST_FILES);
        }

        private int find(int key) {
            for (int i = 0; i < count; i++) {
                if (keys[i] == key) {
                    return i;
                }
            }
            return NONE;
        }

        private void add(int user, int group, int key, int blocks) {
            if (count >= MOST_FILES) {
                return;
            }
            keys[count] = key;
            owners[count] = user;
            groups[count] = group;
            sizes[count] = blocks;
            count++;
        }

        private void remove(int place) {
            int last = count - 1;
            if (place < 0 || place > last) {
                return;
            }
            keys[place] = keys[last];
            owners[place] = owners[last];
            groups[place] = groups[last];
            sizes[place] = sizes[last];
            count = last;
        }

        private boolean isCharged(int place, int account) {
            return owners[place] == account || groupAccount(groups[place]) == account;
        }

        private int scan(int account, int resource) {
            int sum = 0;
            for (int i = 0; i < count; i++) {
                if (isCharged(i, account)) {
                    sum += resource == BLOCKS ? sizes[i] : 1;
                }
            }
            return sum;
        }

        private int listSizes(int account, int[] row) {
            int listed = 0;
            for (int i = 0; i < count && listed < row.length; i++) {
                if (isCharged(i, account)) {
                    row[listed] = sizes[i];
                    listed++;
                }
            }
            return listed;
        }

        private int sumDirectory(int directory) {
            int sum = 0;
            for (int i = 0; i < count; i++) {
                if (keys[i] / NAMES == directory) {
                    sum += sizes[i];
                }
            }
            return sum;
        }

        private int findLargest(int account) {
            int key = NONE;
            int size = NONE;
            for (int i = 0; i < count; i++) {
                boolean better = sizes[i] > size || sizes[i] == size && keys[i] < key;
                if (better && isCharged(i, account)) {
                    key = keys[i];
                    size = sizes[i];
                }
            }
            return key;
        }
    }

    /** The latest events, in a ring: the latest one stands at the place newest, the older ones follow. */
    private static final class EventLog {
        private int count;
        private int newest;
        private final int[] kinds;
        private final int[] pairs;
        private final int[] days;

        private EventLog() {
            count = 0;
            newest = 0;
            kinds = new int[MOST_EVENTS];
            pairs = new int[MOST_EVENTS];
            days = new int[MOST_EVENTS];
        }

        private void copyEvents(EventLog other) {
            count = other.count;
            newest = other.newest;
            System.arraycopy(other.kinds, 0, kinds, 0, MOST_EVENTS);
            System.arraycopy(other.pairs, 0, pairs, 0, MOST_EVENTS);
            System.arraycopy(other.days, 0, days, 0, MOST_EVENTS);
        }

        private void add(int kind, int pair, int today) {
            newest = newest == 0 ? MOST_EVENTS - 1 : newest - 1;
            kinds[newest] = kind;
            pairs[newest] = pair;
            days[newest] = today;
            if (count < MOST_EVENTS) {
                count++;
            }
        }

        private int partOf(int index, int part) {
            if (index >= count) {
                return NONE;
            }
            int place = (newest + index) % MOST_EVENTS;
            switch (part) {
                case 0:
                    return kinds[place];
                case 1:
                    return pairs[place] / RESOURCES;
                case 2:
                    return pairs[place] % RESOURCES;
                default:
                    return days[place];
            }
        }
    }

    /** The text buffer, and a reader that stops at the first character that no valid text has there. */
    private static final class TextReader {
        private final char[] characters;
        private int length;
        private int position;
        private char command;
        private final int[] numbers;

        private TextReader() {
            characters = new char[MOST_CHARACTERS];
            length = 0;
            position = 0;
            command = ' ';
            numbers = new int[MOST_NUMBERS];
        }

        private int findError() {
            position = 0;
            boolean complete = readCommand();
            // A command has two characters at least, so the count never ends the loop before the text does.
            for (int i = 1; complete && position < length && i < MOST_CHARACTERS; i++) {
                complete = readCharacter(';') && readCommand();
            }
            return complete ? NONE : position;
        }

        private boolean readCommand() {
            if (position >= length) {
                return false;
            }
            command = characters[position];
            int[] greatest = greatestNumbers(command);
            if (greatest.length == 0) {
                return false;
            }
            position++;
            int least = command == 'n' ? 1 : 0;
            for (int i = 0; i < greatest.length && i < MOST_NUMBERS; i++) {
                if (i > 0 && !readCharacter(',')) {
                    return false;
                }
                numbers[i] = readNumber(least, greatest[i]);
                if (numbers[i] == NONE) {
                    return false;
                }
            }
            return true;
        }

        private static int[] greatestNumbers(char command) {
            switch (command) {
                case 'c':
                    return CREATE_NUMBERS;
                case 'r':
                    return RESIZE_NUMBERS;
                case 'd':
                    return DELETE_NUMBERS;
                case 'm':
                    return MOVE_NUMBERS;
                case 'n':
                    return DAYS_NUMBERS;
                default:
                    return NO_COMMAND;
            }
        }

        private boolean readCharacter(char expected) {
            if (position >= length || characters[position] != expected) {
                return false;
            }
            position++;
            return true;
        }

        // Takes digits as long as the number stays in range; whoever reads on meets the digit that is too many.
        private int readNumber(int least, int greatest) {
            int value = digitHere();
            if (value < least || value > greatest) {
                return NONE;
            }
            position++;
            while (position < length && digitHere() != NONE && canExtend(value, greatest)) {
                value = value * 10 + digitHere();
                position++;
            }
            return value;
        }

        private boolean canExtend(int value, int greatest) {
            return value != 0 && value * 10 + digitHere() <= greatest;
        }

        private int digitHere() {
            if (position >= length) {
                return NONE;
            }
            char character = characters[position];
            return character >= '0' && character <= '9' ? character - '0' : NONE;
        }
    }
}
