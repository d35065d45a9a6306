/**
 * A builder of targets from files, folders and other targets, in two configurations.
 * What each call answers is told, as numbered promises, by DOC.md.
 */
public final class Makewheel {
    public static final int NONE = -1;
    public static final int FILE = 0, FOLDER = 1, TARGET = 2, TURNED = 3;
    public static final int SUM = 0, TENTH = 1, PICK = 2, FOLLOW = 3, LEAK = 4;
    public static final int NO_RULE = -2, MISSING = -3, RING = -4, BROKEN = -5;
    public static final int UNSEEN = 0, REUSED = 1, FETCHED = 2, RUN = 3, FAILED = 4;

    private static final int FOLDERS = 4, FOLDER_FILES = 5, FILES = 20;
    private static final int TARGETS = 16, CONFIGURATIONS = 2, NODES = 32;
    private static final int MACHINES = 3, HOME = 3;
    private static final int VALUES = 1000, MOST_TIME = 20, MOST_TOLD = 20;
    private static final int MOST_INPUTS = 4, MOST_READS = 5, MOST_ENTRIES = 100, MOST_TRIES = 3;
    private static final int COUNTS = 4, FIRST_FILE_USED = 100;

    // What a FOLLOW reads beside its inputs: behind FILE to TURNED, so that no input can be one.
    private static final int FOUND = 4;
    // A node that is being looked at: behind UNSEEN to FAILED, so that no caller is told it.
    private static final int BEING = 5;

    // Rules, what is kept of nodes, and entries of the cache are rows that begin alike: the rule is
    // TIME up to RULE_END, what an entry is asked by is KIND up to KEY_END.
    private static final int TIME = 0, KIND = 1, NUMBER = 2, SALT = 3, INPUTS = 4, INPUT = 5, RULE_END = 13;
    private static final int CONFIGURATION = 13, READS = 14, READ = 15, KEY_END = 50;
    private static final int VALUE = 50, FROM = 51, CAME = 52, ROW_END = 53;
    // An input within a row; one that was read has its value behind that, or the contents of a folder.
    private static final int WHAT = 0, WHICH = 1, INPUT_WIDTH = 2, HAD = 2, READ_WIDTH = 7;

    // Rows of what was done with the nodes in a build.
    private static final int DONE = 0, ANSWER = 1, WHY = 2, SEEN_END = 3;
    // Rows of machines.
    private static final int POISONED = 0, AWAY = 1, MACHINE_END = 2;
    // Rows of targets in the graph: those that one needs directly, as a set, and how far it is from one.
    private static final int DIRECT = 0, DISTANCE = 1, GRAPH_END = 2;
    // Rows of the schedule: the longest way up to the node that is built, and when a node ends.
    private static final int WAY_UP = 0, END = 1, SCHEDULE_END = 2;

    private static final int NOTHING_KEPT = 1, OTHER_RULE = 2, OTHER_INPUT = 10;

    private final Rows files = new Rows(FOLDERS, FOLDER_FILES, NONE);
    private final Rows rules = new Rows(TARGETS, RULE_END, NONE);
    private final Rows kept = new Rows(NODES, ROW_END, NONE);
    private final Cache cache = new Cache();
    private final Machines machines = new Machines();
    private final Looker builder;
    private final Looker plainly;
    private final Graph graph;
    private final Schedule schedule;

    public Makewheel() {
        builder = new Looker(files, rules, kept, cache, machines, false);
        plainly = new Looker(files, rules, kept, cache, machines, true);
        graph = new Graph(rules);
        schedule = new Schedule(plainly);
    }

    // ---- files, rules

    public int write(int file, int content) throws IndexOutOfBoundsException, IllegalArgumentException {
        if (file < 0 || file >= FILES) {
            throw new IndexOutOfBoundsException("there is no such file");
        }
        if (content != NONE && !isValue(content)) {
            throw new IllegalArgumentException("content is 0 to 999, or NONE");
        }
        int before = contentOf(files, file);
        files.set(file / FOLDER_FILES, file % FOLDER_FILES, content);
        return before;
    }

    public boolean rule(int target, int kind, int number, int salt, int time)
            throws IndexOutOfBoundsException, IllegalArgumentException {
        refuseOtherTargets(target);
        if (kind < NONE || kind > LEAK) {
            throw new IllegalArgumentException("kind is SUM to LEAK, or NONE");
        }
        if (!isValue(number) || !isValue(salt)) {
            throw new IllegalArgumentException("number and salt are 0 to 999");
        }
        if (time < 1 || time > MOST_TIME) {
            throw new IllegalArgumentException("time is 1 to 20");
        }
        boolean hadOne = rules.get(target, KIND) != NONE;
        rules.clear(target);
        if (kind != NONE) {
            rules.set(target, TIME, time);
            rules.set(target, KIND, kind);
            rules.set(target, NUMBER, number);
            rules.set(target, SALT, salt);
            rules.set(target, INPUTS, 0);
        }
        return hadOne;
    }

    public int input(int target, int what, int which)
            throws IndexOutOfBoundsException, IllegalArgumentException, IllegalStateException {
        refuseOtherTargets(target);
        boolean isKnownWhat = what >= FILE && what <= TURNED;
        if (isKnownWhat && (which < 0 || which >= howManyOf(what))) {
            throw new IndexOutOfBoundsException("there is no such input");
        }
        if (!isKnownWhat) {
            throw new IllegalArgumentException("what is FILE to TURNED");
        }
        int inputs = rules.get(target, INPUTS);
        if (rules.get(target, KIND) == NONE || inputs >= MOST_INPUTS) {
            throw new IllegalStateException("the target has no rule, or 4 inputs");
        }
        rules.set(target, INPUT + inputs * INPUT_WIDTH + WHAT, what);
        rules.set(target, INPUT + inputs * INPUT_WIDTH + WHICH, which);
        rules.set(target, INPUTS, inputs + 1);
        return inputs + 1;
    }

    // ---- machines, cache

    public int fails(int target, int times) throws IndexOutOfBoundsException, IllegalArgumentException {
        refuseOtherTargets(target);
        if (times < 0 || times > MOST_TOLD) {
            throw new IllegalArgumentException("times is 0 to 20");
        }
        return machines.letFail(target, times);
    }

    public boolean poison(int machine, boolean isPoisoned) throws IndexOutOfBoundsException {
        if (machine < 0 || machine >= MACHINES) {
            throw new IndexOutOfBoundsException("there is no such machine");
        }
        return machines.bringBack(machine, isPoisoned);
    }

    public boolean checks(boolean areOn) {
        boolean wereOn = machines.areChecked;
        machines.areChecked = areOn;
        return wereOn;
    }

    public int vanish(int many) throws IllegalArgumentException {
        if (many < 0 || many > MOST_TOLD) {
            throw new IllegalArgumentException("many is 0 to 20");
        }
        int before = cache.vanishing;
        cache.vanishing = many;
        return before;
    }

    public int empty() {
        return clearAll(cache.rows);
    }

    public int forget() {
        return clearAll(kept);
    }

    // ---- builds

    public int build(int target, int configuration) throws IndexOutOfBoundsException {
        refuseOtherNodes(target, configuration);
        return builder.start(nodeOf(target, configuration));
    }

    public int plain(int target, int configuration) throws IndexOutOfBoundsException {
        refuseOtherNodes(target, configuration);
        return plainly.start(nodeOf(target, configuration));
    }

    public int done(int target, int configuration) throws IndexOutOfBoundsException {
        refuseOtherNodes(target, configuration);
        return builder.seen.get(nodeOf(target, configuration), DONE);
    }

    public int why(int target, int configuration) throws IndexOutOfBoundsException {
        refuseOtherNodes(target, configuration);
        return builder.seen.get(nodeOf(target, configuration), WHY);
    }

    public int counts(int what) throws IllegalArgumentException {
        if (what < 0 || what >= COUNTS) {
            throw new IllegalArgumentException("what is 0 to 3");
        }
        if (what == 0) {
            return builder.runs;
        }
        if (what == 1) {
            return builder.howMany(FETCHED);
        }
        return what == 2 ? builder.howMany(REUSED) : NODES - builder.howMany(UNSEEN);
    }

    public int entries() {
        return cache.rows.howManyFilled();
    }

    public int away() {
        return machines.allAway();
    }

    public int leaks() {
        return builder.leaking;
    }

    // ---- the graph

    public int needs(int target) throws IndexOutOfBoundsException {
        refuseOtherTargets(target);
        graph.draw();
        return graph.allFrom(target);
    }

    public int users(int target) throws IndexOutOfBoundsException {
        boolean isFile = target >= FIRST_FILE_USED && target < FIRST_FILE_USED + FILES;
        if (!isFile && (target < 0 || target >= TARGETS)) {
            throw new IndexOutOfBoundsException("there is no such target or file");
        }
        graph.draw();
        if (!isFile) {
            return graph.thatNeed(1 << target);
        }
        int first = graph.withFile(target - FIRST_FILE_USED);
        return first | graph.thatNeed(first);
    }

    public int ring(int target) throws IndexOutOfBoundsException {
        refuseOtherTargets(target);
        graph.draw();
        return graph.shortestRing(target);
    }

    public int way(int target, int other, int place) throws IndexOutOfBoundsException, IllegalArgumentException {
        refuseOtherTargets(target);
        refuseOtherTargets(other);
        if (place < 0) {
            throw new IndexOutOfBoundsException("there is no such place");
        }
        if (target == other) {
            throw new IllegalArgumentException("both targets are the same");
        }
        graph.draw();
        return graph.onShortestWay(target, other, place);
    }

    public int time(int target, int configuration, int machines)
            throws IndexOutOfBoundsException, IllegalArgumentException {
        refuseOtherNodes(target, configuration);
        if (machines < 1 || machines > MACHINES) {
            throw new IllegalArgumentException("machines is 1 to 3");
        }
        int node = nodeOf(target, configuration);
        return plainly.start(node) < 0 ? NONE : schedule.endOf(node, machines);
    }

    // ---- what the calls share

    private static void refuseOtherTargets(int target) {
        if (target < 0 || target >= TARGETS) {
            throw new IndexOutOfBoundsException("there is no such target");
        }
    }

    private static void refuseOtherNodes(int target, int configuration) {
        refuseOtherTargets(target);
        if (configuration < 0 || configuration >= CONFIGURATIONS) {
            throw new IndexOutOfBoundsException("there is no such configuration");
        }
    }

    private static boolean isValue(int number) {
        return number >= 0 && number < VALUES;
    }

    private static int howManyOf(int what) {
        if (what == FILE) {
            return FILES;
        }
        return what == FOLDER ? FOLDERS : TARGETS;
    }

    private static int nodeOf(int target, int configuration) {
        return target * CONFIGURATIONS + configuration;
    }

    /** The node that a TARGET or a TURNED input of another node is. */
    private static int nodeRead(int node, int what, int which) {
        int configuration = node % CONFIGURATIONS;
        return nodeOf(which, what == TURNED ? 1 - configuration : configuration);
    }

    private static int contentOf(Rows files, int file) {
        return files.get(file / FOLDER_FILES, file % FOLDER_FILES);
    }

    private static int clearAll(Rows rows) {
        int filled = rows.howManyFilled();
        for (int row = 0; row < rows.many; row++) {
            rows.clear(row);
        }
        return filled;
    }

    /** A table of numbers; what stands beside it reads as blank, and nothing can be set there. */
    private static final class Rows {
        private final int many;
        private final int width;
        private final int blank;
        private final int[] cells;

        Rows(int many, int width, int blank) {
            this.many = many < 0 ? 0 : many;
            this.width = width < 0 ? 0 : width;
            this.blank = blank;
            int size = this.many * this.width;
            cells = new int[size < 0 ? 0 : size];
            for (int index = 0; index < cells.length; index++) {
                cells[index] = blank;
            }
        }

        int get(int row, int place) {
            boolean isThere = row >= 0 && row < many && place >= 0 && place < width;
            int index = isThere ? row * width + place : NONE;
            return index >= 0 && index < cells.length ? cells[index] : blank;
        }

        void set(int row, int place, int number) {
            boolean isThere = row >= 0 && row < many && place >= 0 && place < width;
            int index = isThere ? row * width + place : NONE;
            if (index >= 0 && index < cells.length) {
                cells[index] = number;
            }
        }

        void clear(int row) {
            int first = row >= 0 && row < many ? row * width : cells.length;
            for (int index = first; index >= 0 && index < cells.length && index < first + width; index++) {
                cells[index] = blank;
            }
        }

        void copy(int row, Rows from, int fromRow) {
            for (int place = 0; place < width && place < from.width; place++) {
                set(row, place, from.get(fromRow, place));
            }
        }

        boolean isSame(int row, Rows other, int otherRow, int first, int end) {
            for (int place = first; place < end; place++) {
                if (get(row, place) != other.get(otherRow, place)) {
                    return false;
                }
            }
            return true;
        }

        /** Counts the rows of rules, of what is kept, or of entries: those that have a kind. */
        int howManyFilled() {
            int filled = 0;
            for (int row = 0; row < many; row++) {
                if (get(row, KIND) != NONE) {
                    filled++;
                }
            }
            return filled;
        }
    }

    /** The entries that came from actions, and how many fetches are yet to vanish. */
    private static final class Cache {
        private final Rows rows = new Rows(MOST_ENTRIES, ROW_END, NONE);
        private int vanishing;
        private int came;

        int find(Rows asked, int row) {
            for (int entry = 0; entry < MOST_ENTRIES; entry++) {
                if (rows.isSame(entry, asked, row, KIND, KEY_END)) {
                    return entry;
                }
            }
            return NONE;
        }

        void add(Rows from, int row) {
            int entry = firstToGo();
            rows.copy(entry, from, row);
            rows.set(entry, CAME, came);
            came++;
        }

        // A free row has CAME as NONE, so it is lower than all that came, and is taken ahead of them.
        private int firstToGo() {
            int first = 0;
            for (int entry = 1; entry < MOST_ENTRIES; entry++) {
                if (rows.get(entry, CAME) < rows.get(first, CAME)) {
                    first = entry;
                }
            }
            return first;
        }

        void loseAllFrom(int machine) {
            for (int entry = 0; entry < MOST_ENTRIES; entry++) {
                if (rows.get(entry, FROM) == machine) {
                    rows.clear(entry);
                }
            }
        }
    }

    /** The far machines, and the failures that are yet to come on them or at home. */
    private static final class Machines {
        private final Rows rows = new Rows(MACHINES, MACHINE_END, 0);
        private final Rows failing = new Rows(TARGETS, 1, 0);
        private boolean areChecked;
        private int turn;

        int letFail(int target, int times) {
            int before = failing.get(target, 0);
            failing.set(target, 0, times);
            return before;
        }

        boolean usesUpFailure(int target) {
            int left = failing.get(target, 0);
            if (left > 0) {
                failing.set(target, 0, left - 1);
            }
            return left > 0;
        }

        boolean bringBack(int machine, boolean isPoisoned) {
            boolean wasAway = isAway(machine);
            rows.set(machine, AWAY, 0);
            rows.set(machine, POISONED, isPoisoned ? 1 : 0);
            return wasAway;
        }

        boolean isAway(int machine) {
            return rows.get(machine, AWAY) == 1;
        }

        int allAway() {
            int set = 0;
            for (int machine = 0; machine < MACHINES; machine++) {
                if (isAway(machine)) {
                    set |= 1 << machine;
                }
            }
            return set;
        }

        int takeNext() {
            for (int tried = 0; tried < MACHINES; tried++) {
                int machine = turn;
                turn = (turn + 1) % MACHINES;
                if (!isAway(machine)) {
                    return machine;
                }
            }
            return HOME;
        }

        int tells(int machine, int result) {
            return rows.get(machine, POISONED) == 1 ? (result + 1) % VALUES : result;
        }
    }

    /**
     * Looks at nodes: as a build does, or plainly, from nothing. Both are one class since both
     * read inputs alike; plainly it leaves what is kept, the cache and the machines alone.
     */
    private static final class Looker {
        private final Rows files;
        private final Rows rules;
        private final Rows kept;
        private final Cache cache;
        private final Machines machines;
        private final boolean isPlain;
        private final Rows seen = new Rows(NODES, SEEN_END, 0);
        // A row a node, since the nodes that it reads are looked at while it is being read.
        private final Rows fresh = new Rows(NODES, ROW_END, NONE);
        private int runs;
        private int leaking;

        Looker(Rows files, Rows rules, Rows kept, Cache cache, Machines machines, boolean isPlain) {
            this.files = files;
            this.rules = rules;
            this.kept = kept;
            this.cache = cache;
            this.machines = machines;
            this.isPlain = isPlain;
        }

        int start(int node) {
            runs = 0;
            for (int each = 0; each < NODES; each++) {
                seen.clear(each);
            }
            int answer = look(node, 0);
            if (!isPlain) {
                loseKeptFromAway();
            }
            return answer;
        }

        int howMany(int how) {
            int many = 0;
            for (int node = 0; node < NODES; node++) {
                if (seen.get(node, DONE) == how) {
                    many++;
                }
            }
            return many;
        }

        // No more than all nodes can be looked at, one for another, so deeper there is only a ring.
        private int look(int node, int depth) {
            int how = seen.get(node, DONE);
            if (how == BEING || depth >= NODES) {
                return RING;
            }
            if (how != UNSEEN) {
                return seen.get(node, ANSWER);
            }
            seen.set(node, DONE, BEING);
            return isPlain ? answerPlainly(node, depth) : answerByKept(node, depth);
        }

        private int answerPlainly(int node, int depth) {
            int failure = readInputs(node, depth);
            return failure < 0 ? end(node, FAILED, failure) : end(node, RUN, resultOf(node));
        }

        private int answerByKept(int node, int depth) {
            int reason = whyNotReused(node, depth);
            seen.set(node, WHY, reason);
            if (reason == 0) {
                return end(node, REUSED, kept.get(node, VALUE));
            }
            int failure = readInputs(node, depth);
            if (failure < 0) {
                return fail(node, failure);
            }
            noteLeak(node);
            if (isFetched(node)) {
                return keep(node, FETCHED);
            }
            int machine = runUntilGood(node);
            if (machine == NONE) {
                return fail(node, BROKEN);
            }
            tell(node, machine, resultOf(node));
            cache.add(fresh, node);
            return keep(node, RUN);
        }

        private int end(int node, int how, int answer) {
            seen.set(node, DONE, how);
            seen.set(node, ANSWER, answer);
            return answer;
        }

        private int fail(int node, int failure) {
            kept.clear(node);
            return end(node, FAILED, failure);
        }

        private int keep(int node, int how) {
            kept.copy(node, fresh, node);
            return end(node, how, kept.get(node, VALUE));
        }

        private int whyNotReused(int node, int depth) {
            if (kept.get(node, KIND) == NONE) {
                return NOTHING_KEPT;
            }
            if (!kept.isSame(node, rules, node / CONFIGURATIONS, TIME, RULE_END)) {
                return OTHER_RULE;
            }
            int reads = kept.get(node, READS);
            for (int read = 0; read < reads && read < MOST_READS; read++) {
                if (!isAsItWas(node, READ + read * READ_WIDTH, depth)) {
                    return OTHER_INPUT + read;
                }
            }
            return 0;
        }

        private boolean isAsItWas(int node, int cell, int depth) {
            int what = kept.get(node, cell + WHAT);
            int which = kept.get(node, cell + WHICH);
            if (what != FOLDER) {
                return valueNow(node, what, which, depth) == kept.get(node, cell + HAD);
            }
            for (int file = 0; file < FOLDER_FILES; file++) {
                if (files.get(which, file) != kept.get(node, cell + HAD + file)) {
                    return false;
                }
            }
            return true;
        }

        /** The value of what is not a folder; below NONE, it fails; NONE, a found file is not there. */
        private int valueNow(int node, int what, int which, int depth) {
            if (what == FILE || what == FOUND) {
                int content = contentOf(files, which);
                return content == NONE && what == FILE ? MISSING : content;
            }
            return look(nodeRead(node, what, which), depth + 1);
        }

        /** Reads all that the rule of a node reads into its fresh row; answers 0, or why it fails. */
        private int readInputs(int node, int depth) {
            fresh.clear(node);
            fresh.copy(node, rules, node / CONFIGURATIONS);
            int kind = fresh.get(node, KIND);
            if (kind == NONE) {
                return NO_RULE;
            }
            int configuration = node % CONFIGURATIONS;
            fresh.set(node, CONFIGURATION, configuration);
            fresh.set(node, READS, 0);
            int inputs = fresh.get(node, INPUTS);
            int first = kind == PICK ? configuration : 0;
            int end = kind == PICK && inputs > first + 1 ? first + 1 : inputs;
            for (int place = first; place < end && place < MOST_INPUTS; place++) {
                int cell = INPUT + place * INPUT_WIDTH;
                int failure = read(node, fresh.get(node, cell + WHAT), fresh.get(node, cell + WHICH), depth);
                if (failure < 0) {
                    return failure;
                }
            }
            return kind == FOLLOW ? read(node, FOUND, sumOfReads(node) % FILES, depth) : 0;
        }

        private int read(int node, int what, int which, int depth) {
            int reads = fresh.get(node, READS);
            int cell = READ + reads * READ_WIDTH;
            fresh.set(node, READS, reads + 1);
            fresh.set(node, cell + WHAT, what);
            fresh.set(node, cell + WHICH, which);
            if (what != FOLDER) {
                int value = valueNow(node, what, which, depth);
                fresh.set(node, cell + HAD, value);
                return value < NONE ? value : 0;
            }
            for (int file = 0; file < FOLDER_FILES; file++) {
                fresh.set(node, cell + HAD + file, files.get(which, file));
            }
            return 0;
        }

        private int sumOfReads(int node) {
            int sum = 0;
            int reads = fresh.get(node, READS);
            for (int read = 0; read < reads && read < MOST_READS; read++) {
                sum += valueOfRead(node, READ + read * READ_WIDTH);
            }
            return sum;
        }

        // A file of a folder that is not there, or a found one, is NONE; the cells that are not used are, too.
        private int valueOfRead(int node, int cell) {
            int sum = 0;
            for (int place = cell + HAD; place < cell + READ_WIDTH; place++) {
                int content = fresh.get(node, place);
                sum += content == NONE ? 0 : content;
            }
            return sum % VALUES;
        }

        private int resultOf(int node) {
            int sum = sumOfReads(node);
            int kind = fresh.get(node, KIND);
            if (kind == TENTH) {
                sum = sum / 10;
            }
            if (kind == LEAK && seesItsFile(node)) {
                int content = contentOf(files, fresh.get(node, NUMBER) % FILES);
                sum += content == NONE ? 0 : content;
            }
            return (sum + fresh.get(node, SALT)) % VALUES;
        }

        /** Whether the file that a LEAK looks for is among its files and folders. */
        private boolean seesItsFile(int node) {
            int file = fresh.get(node, NUMBER) % FILES;
            int inputs = fresh.get(node, INPUTS);
            for (int place = 0; place < inputs && place < MOST_INPUTS; place++) {
                int what = fresh.get(node, INPUT + place * INPUT_WIDTH + WHAT);
                int which = fresh.get(node, INPUT + place * INPUT_WIDTH + WHICH);
                if (what == FILE && which == file || what == FOLDER && which == file / FOLDER_FILES) {
                    return true;
                }
            }
            return false;
        }

        private void noteLeak(int node) {
            if (fresh.get(node, KIND) == LEAK && !seesItsFile(node)) {
                leaking |= 1 << node / CONFIGURATIONS;
            }
        }

        private boolean isFetched(int node) {
            int entry = cache.find(fresh, node);
            if (entry == NONE) {
                return false;
            }
            if (cache.vanishing > 0) {
                cache.vanishing--;
                cache.rows.clear(entry);
                return false;
            }
            fresh.set(node, VALUE, cache.rows.get(entry, VALUE));
            fresh.set(node, FROM, cache.rows.get(entry, FROM));
            return true;
        }

        /** Answers the machine, or HOME, on which the action did not fail; NONE if it never did not. */
        private int runUntilGood(int node) {
            for (int tries = 0; tries < MOST_TRIES; tries++) {
                int machine = machines.takeNext();
                runs++;
                if (!machines.usesUpFailure(node / CONFIGURATIONS)) {
                    return machine;
                }
            }
            return NONE;
        }

        private void tell(int node, int machine, int result) {
            int told = machines.tells(machine, result);
            boolean isChecked = machines.areChecked && machine != HOME;
            if (isChecked) {
                runs++;
            }
            boolean isFoundOut = isChecked && told != result;
            if (isFoundOut) {
                putAway(machine);
            }
            fresh.set(node, VALUE, isFoundOut ? result : told);
            fresh.set(node, FROM, isFoundOut ? HOME : machine);
        }

        private void putAway(int machine) {
            machines.rows.set(machine, AWAY, 1);
            cache.loseAllFrom(machine);
            for (int node = 0; node < NODES; node++) {
                if (seen.get(node, DONE) == UNSEEN && kept.get(node, FROM) == machine) {
                    kept.clear(node);
                }
            }
        }

        // What this build saw of a machine that it put away had to stay as it was up to here.
        private void loseKeptFromAway() {
            for (int node = 0; node < NODES; node++) {
                if (machines.isAway(kept.get(node, FROM))) {
                    kept.clear(node);
                }
            }
        }
    }

    /** The targets and what they need, whether it is read or not. */
    private static final class Graph {
        private final Rows rules;
        private final Rows rows = new Rows(TARGETS, GRAPH_END, 0);

        Graph(Rows rules) {
            this.rules = rules;
        }

        /** Takes the rules as they are now; all other questions go by that. */
        void draw() {
            for (int target = 0; target < TARGETS; target++) {
                rows.set(target, DIRECT, directNeeds(target));
            }
        }

        private int directNeeds(int target) {
            int set = 0;
            int inputs = rules.get(target, INPUTS);
            for (int place = 0; place < inputs && place < MOST_INPUTS; place++) {
                int what = rules.get(target, INPUT + place * INPUT_WIDTH + WHAT);
                if (what == TARGET || what == TURNED) {
                    set |= 1 << rules.get(target, INPUT + place * INPUT_WIDTH + WHICH);
                }
            }
            return set;
        }

        int allFrom(int target) {
            int set = rows.get(target, DIRECT);
            for (int round = 0; round < TARGETS; round++) {
                for (int each = 0; each < TARGETS; each++) {
                    if (has(set, each)) {
                        set |= rows.get(each, DIRECT);
                    }
                }
            }
            return set;
        }

        int thatNeed(int anyOf) {
            int set = 0;
            for (int target = 0; target < TARGETS; target++) {
                if ((allFrom(target) & anyOf) != 0) {
                    set |= 1 << target;
                }
            }
            return set;
        }

        int withFile(int file) {
            int set = 0;
            for (int target = 0; target < TARGETS; target++) {
                int inputs = rules.get(target, INPUTS);
                for (int place = 0; place < inputs && place < MOST_INPUTS; place++) {
                    int what = rules.get(target, INPUT + place * INPUT_WIDTH + WHAT);
                    int which = rules.get(target, INPUT + place * INPUT_WIDTH + WHICH);
                    if (what == FILE && which == file || what == FOLDER && which == file / FOLDER_FILES) {
                        set |= 1 << target;
                    }
                }
            }
            return set;
        }

        int shortestRing(int target) {
            measure(target);
            int shortest = NONE;
            for (int next = 0; next < TARGETS; next++) {
                int distance = rows.get(next, DISTANCE);
                boolean isOnRing = has(rows.get(target, DIRECT), next) && distance != NONE;
                if (isOnRing && (shortest == NONE || distance + 1 < shortest)) {
                    shortest = distance + 1;
                }
            }
            return shortest;
        }

        int onShortestWay(int target, int other, int place) {
            measure(other);
            int length = rows.get(target, DISTANCE);
            if (length == NONE || place > length) {
                return NONE;
            }
            int here = target;
            for (int gone = 0; gone < place && gone < TARGETS; gone++) {
                here = lowestAt(rows.get(here, DIRECT), length - gone - 1);
            }
            return here;
        }

        private int lowestAt(int set, int distance) {
            for (int target = 0; target < TARGETS; target++) {
                if (has(set, target) && rows.get(target, DISTANCE) == distance) {
                    return target;
                }
            }
            return NONE;
        }

        /** Sets how far each target is from one that it needs, 0 for that one, NONE without a way. */
        private void measure(int end) {
            for (int target = 0; target < TARGETS; target++) {
                rows.set(target, DISTANCE, target == end ? 0 : NONE);
            }
            int reached = 1 << end;
            for (int distance = 1; distance < TARGETS; distance++) {
                int farther = reached;
                for (int target = 0; target < TARGETS; target++) {
                    if (!has(reached, target) && (rows.get(target, DIRECT) & reached) != 0) {
                        rows.set(target, DISTANCE, distance);
                        farther |= 1 << target;
                    }
                }
                reached = farther;
            }
        }

        private static boolean has(int set, int target) {
            return (set >> target & 1) == 1;
        }
    }

    /** Lets a few machines run all nodes that a build from nothing looks at. */
    private static final class Schedule {
        private final Looker plainly;
        private final Rows rows = new Rows(NODES, SCHEDULE_END, NONE);

        Schedule(Looker plainly) {
            this.plainly = plainly;
        }

        /** When the node is built that was just looked at plainly, and has a value. */
        int endOf(int built, int machines) {
            measureWaysUp(built);
            int now = 0;
            // Each round ends at least one node.
            for (int round = 0; round <= NODES && rows.get(built, END) == NONE; round++) {
                beginAt(now, machines);
                now = nextEnd(now);
            }
            return rows.get(built, END);
        }

        // Nodes that are not looked at keep NONE as their way up, and by that take no part.
        private void measureWaysUp(int built) {
            for (int node = 0; node < NODES; node++) {
                rows.clear(node);
            }
            rows.set(built, WAY_UP, timeOf(built));
            boolean isLonger = true;
            for (int round = 0; round < NODES && isLonger; round++) {
                isLonger = false;
                for (int node = 0; node < NODES; node++) {
                    isLonger |= rows.get(node, WAY_UP) != NONE && makesWaysLonger(node);
                }
            }
        }

        private boolean makesWaysLonger(int node) {
            boolean isLonger = false;
            for (int read = 0; read < MOST_READS; read++) {
                int needed = nodeReadAt(node, read);
                int way = needed == NONE ? NONE : rows.get(node, WAY_UP) + timeOf(needed);
                if (needed != NONE && way > rows.get(needed, WAY_UP)) {
                    rows.set(needed, WAY_UP, way);
                    isLonger = true;
                }
            }
            return isLonger;
        }

        private int nodeReadAt(int node, int read) {
            int cell = READ + read * READ_WIDTH;
            int what = plainly.fresh.get(node, cell + WHAT);
            int which = plainly.fresh.get(node, cell + WHICH);
            return what == TARGET || what == TURNED ? nodeRead(node, what, which) : NONE;
        }

        private int timeOf(int node) {
            return plainly.fresh.get(node, TIME);
        }

        private void beginAt(int now, int machines) {
            for (int free = machines - howManyRunning(now); free > 0; free--) {
                int best = bestToBegin(now);
                if (best != NONE) {
                    rows.set(best, END, now + timeOf(best));
                }
            }
        }

        private int howManyRunning(int now) {
            int running = 0;
            for (int node = 0; node < NODES; node++) {
                if (rows.get(node, END) > now) {
                    running++;
                }
            }
            return running;
        }

        private int bestToBegin(int now) {
            int best = NONE;
            int longest = NONE;
            for (int node = 0; node < NODES; node++) {
                if (canBegin(node, now) && rows.get(node, WAY_UP) > longest) {
                    best = node;
                    longest = rows.get(node, WAY_UP);
                }
            }
            return best;
        }

        private boolean canBegin(int node, int now) {
            if (rows.get(node, WAY_UP) == NONE || rows.get(node, END) != NONE) {
                return false;
            }
            for (int read = 0; read < MOST_READS; read++) {
                int needed = nodeReadAt(node, read);
                int end = needed == NONE ? 0 : rows.get(needed, END);
                if (end == NONE || end > now) {
                    return false;
                }
            }
            return true;
        }

        private int nextEnd(int now) {
            int next = NONE;
            for (int node = 0; node < NODES; node++) {
                int end = rows.get(node, END);
                if (end > now && (next == NONE || end < next)) {
                    next = end;
                }
            }
            return next;
        }
    }
}
