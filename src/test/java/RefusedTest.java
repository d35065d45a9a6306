import java.util.ArrayList;
import java.util.List;

/**
 * Refused calls: each wrong argument at the first value that is out, at the one far out, and
 * together with others, throws just the exception that comes first, and changes nothing. That is
 * looked at on two objects with the same calls, but for the refused one: all that can be asked
 * of them, then and after builds that go on, must be the same.
 */
public final class RefusedTest extends Given {
    private static final int LEAST = Integer.MIN_VALUE, MOST = Integer.MAX_VALUE;
    private static final int[] NO_FILES = {-1, -2, 20, 21, 100, LEAST, MOST};
    private static final int[] NO_TARGETS = {-1, -2, 16, 17, 32, LEAST, MOST};
    private static final int[] NO_CONFIGURATIONS = {-1, -2, 2, 3, LEAST, MOST};
    private static final int[] NO_CONTENTS = {-2, -3, 1000, 1001, LEAST, MOST};
    private static final int[] NO_VALUES = {-1, -2, 1000, 1001, LEAST, MOST};
    private static final int[] NO_TIMES = {-1, 0, 21, 22, LEAST, MOST};
    private static final int[] NO_KINDS = {-2, -3, 5, 6, LEAST, MOST};
    private static final int[] NO_WHATS = {-1, -2, 4, 5, LEAST, MOST};
    private static final int[] NO_TOLD = {-1, -2, 21, 22, LEAST, MOST};
    private static final int[] NO_MACHINES = {-1, -2, 3, 4, LEAST, MOST};
    private static final int[] NO_COUNTS = {-1, -2, 4, 5, LEAST, MOST};
    private static final int[] NO_USED = {-1, -2, 16, 17, 50, 99, 120, 121, 216, LEAST, MOST};
    private static final int[] NO_MANY_MACHINES = {-1, 0, 4, 5, LEAST, MOST};
    private static final int[] NO_PLACES = {-1, -2, LEAST};

    private interface Refused {
        Object on(Makewheel x);
    }

    private static List<Object> undisturbed;

    private RefusedTest() {
    }

    public static void main(String[] arguments) {
        readyOneHasAll();
        undisturbed = picture(readyOne());
        due("the same calls give the same picture", undisturbed, () -> picture(readyOne()));
        write();
        rule();
        input();
        machinesAndCache();
        builds();
        graph();
        wayAndTime();
        onNewObjects();
        Due.end("RefusedTest");
    }

    /** Else a refused call could change what no call of the picture shows. */
    private static void readyOneHasAll() {
        Makewheel x = readyOne();
        int[] many = new int[5];
        for (int node = 0; node < 32; node++) {
            many[x.done(node / 2, node % 2)]++;
        }
        for (int how = UNSEEN; how <= FAILED; how++) {
            int each = how;
            due("the ready one has nodes that were " + how, true, () -> many[each] > 0);
        }
        due("the ready one has a machine away", 1, () -> x.away());
        due("the ready one has a leak", 16, () -> x.leaks());
        due("the ready one has entries", true, () -> x.entries() > 5);
        due("the ready one has fetches to vanish", 3, () -> x.vanish(0));
        due("the ready one has failures to come", 2, () -> x.fails(3, 0));
        due("the ready one is checked", true, () -> x.checks(false));
        due("the ready one has something kept", true, () -> x.forget() > 3);
    }

    private static void refused(String what, Class<? extends RuntimeException> want, Refused call) {
        Makewheel x = readyOne();
        Due.throwsIt(what, want, () -> call.on(x));
        due(what + ", and changed nothing", undisturbed, () -> picture(x));
    }

    private static void write() {
        for (int file : NO_FILES) {
            refused("2: file " + file, INDEX, x -> x.write(file, 0));
            refused("2: to take away file " + file, INDEX, x -> x.write(file, NONE));
            refused("2: file first, then content " + file, INDEX, x -> x.write(file, 1000));
        }
        for (int content : NO_CONTENTS) {
            refused("2: content " + content + " for the first file", ARGUMENT, x -> x.write(0, content));
            refused("2: content " + content + " for the last file", ARGUMENT, x -> x.write(19, content));
        }
    }

    private static void rule() {
        for (int target : NO_TARGETS) {
            refused("3: target " + target, INDEX, x -> x.rule(target, SUM, 0, 0, 1));
            refused("3: target first, then kind " + target, INDEX, x -> x.rule(target, 5, 0, 0, 1));
            refused("3: target first, then all others", INDEX, x -> x.rule(target, -2, -1, 1000, 0));
        }
        for (int kind : NO_KINDS) {
            refused("3: kind " + kind, ARGUMENT, x -> x.rule(0, kind, 0, 0, 1));
        }
        for (int kind = NONE; kind <= LEAK; kind++) {
            int each = kind;
            for (int wrong : NO_VALUES) {
                refused("3: number " + wrong + " of kind " + kind, ARGUMENT, x -> x.rule(1, each, wrong, 0, 1));
                refused("3: salt " + wrong + " of kind " + kind, ARGUMENT, x -> x.rule(1, each, 0, wrong, 1));
            }
            for (int wrong : NO_TIMES) {
                refused("3: time " + wrong + " of kind " + kind, ARGUMENT, x -> x.rule(1, each, 0, 0, wrong));
            }
        }
    }

    private static void input() {
        int[][] noneOf = {{-1, 20, LEAST, MOST}, {-1, 4, LEAST, MOST}, {-1, 16, LEAST, MOST}, {-1, 16, LEAST, MOST}};
        for (int target : NO_TARGETS) {
            refused("4: target " + target, INDEX, x -> x.input(target, FILE, 0));
            refused("4: target first, then what", INDEX, x -> x.input(target, 4, 0));
        }
        // 1 has room for more, 9 has no rule, and 4 has 4 inputs.
        for (int target : new int[] {1, 9, 4}) {
            for (int what = FILE; what <= TURNED; what++) {
                int each = what;
                for (int which : noneOf[what]) {
                    refused("4: no such input " + what + " " + which, INDEX, x -> x.input(target, each, which));
                }
            }
            for (int what : NO_WHATS) {
                refused("4: what " + what, ARGUMENT, x -> x.input(target, what, 0));
                refused("4: what " + what + ", of which there is none", ARGUMENT, x -> x.input(target, what, 99));
            }
        }
        for (int what = FILE; what <= TURNED; what++) {
            int each = what;
            refused("4: no rule, " + what, STATE, x -> x.input(9, each, 0));
            refused("4: full, " + what, STATE, x -> x.input(4, each, 0));
        }
    }

    private static void machinesAndCache() {
        for (int target : NO_TARGETS) {
            refused("5: target " + target, INDEX, x -> x.fails(target, 0));
            refused("5: target first, then times", INDEX, x -> x.fails(target, 21));
        }
        for (int times : NO_TOLD) {
            refused("5: times " + times, ARGUMENT, x -> x.fails(3, times));
            refused("8: many " + times, ARGUMENT, x -> x.vanish(times));
        }
        for (int machine : NO_MACHINES) {
            refused("6: machine " + machine, INDEX, x -> x.poison(machine, true));
            refused("6: to heal machine " + machine, INDEX, x -> x.poison(machine, false));
        }
    }

    private static void builds() {
        for (int target : NO_TARGETS) {
            for (int configuration : new int[] {0, 1, 2}) {
                refused("11: target " + target, INDEX, x -> x.build(target, configuration));
                refused("12: target " + target, INDEX, x -> x.plain(target, configuration));
                refused("13: target " + target, INDEX, x -> x.done(target, configuration));
                refused("14: target " + target, INDEX, x -> x.why(target, configuration));
            }
        }
        for (int configuration : NO_CONFIGURATIONS) {
            for (int target : new int[] {0, 15}) {
                refused("11: configuration " + configuration, INDEX, x -> x.build(target, configuration));
                refused("12: configuration " + configuration, INDEX, x -> x.plain(target, configuration));
                refused("13: configuration " + configuration, INDEX, x -> x.done(target, configuration));
                refused("14: configuration " + configuration, INDEX, x -> x.why(target, configuration));
            }
        }
        for (int what : NO_COUNTS) {
            refused("15: what " + what, ARGUMENT, x -> x.counts(what));
        }
    }

    private static void graph() {
        for (int target : NO_TARGETS) {
            refused("19: target " + target, INDEX, x -> x.needs(target));
            refused("21: target " + target, INDEX, x -> x.ring(target));
        }
        for (int target : NO_USED) {
            refused("20: target or file " + target, INDEX, x -> x.users(target));
        }
    }

    private static void wayAndTime() {
        for (int target : NO_TARGETS) {
            refused("22: target " + target, INDEX, x -> x.way(target, 0, 0));
            refused("22: other " + target, INDEX, x -> x.way(0, target, 0));
            refused("22: target first, then the same " + target, INDEX, x -> x.way(target, target, 0));
            refused("23: target " + target, INDEX, x -> x.time(target, 0, 1));
            refused("23: target first, then machines " + target, INDEX, x -> x.time(target, 0, 0));
        }
        for (int place : NO_PLACES) {
            refused("22: place " + place, INDEX, x -> x.way(0, 1, place));
            refused("22: place first, then the same " + place, INDEX, x -> x.way(1, 1, place));
        }
        for (int target = 0; target < 16; target++) {
            int each = target;
            refused("22: the same, " + target, ARGUMENT, x -> x.way(each, each, 0));
            refused("22: the same, however far, " + target, ARGUMENT, x -> x.way(each, each, MOST));
        }
        for (int configuration : NO_CONFIGURATIONS) {
            refused("23: configuration " + configuration, INDEX, x -> x.time(0, configuration, 1));
            refused("23: configuration first, then machines", INDEX, x -> x.time(0, configuration, 4));
        }
        // 4 has a value, and 9 would fail.
        for (int machines : NO_MANY_MACHINES) {
            refused("23: machines " + machines, ARGUMENT, x -> x.time(4, 0, machines));
            refused("23: machines " + machines + " where it would fail", ARGUMENT, x -> x.time(9, 1, machines));
        }
    }

    private static void onNewObjects() {
        Makewheel x = new Makewheel();
        Due.throwsIt("2: at first", INDEX, () -> x.write(20, 1));
        Due.throwsIt("3: at first", ARGUMENT, () -> x.rule(0, NONE, 1000, 0, 1));
        Due.throwsIt("4: at first", STATE, () -> x.input(0, FILE, 0));
        Due.throwsIt("11: at first", INDEX, () -> x.build(16, 0));
        Due.throwsIt("15: at first", ARGUMENT, () -> x.counts(4));
        due("nothing came of them", picture(new Makewheel()), () -> picture(x));
    }

    /**
     * One with something of all: files, rules, a target with 4 inputs (4) and one without a rule (9),
     * leaks, failures and vanishing fetches to come, a machine that was put away and one that is
     * poisoned, a cache, and a latest build that reused, fetched, ran and failed.
     */
    private static Makewheel readyOne() {
        Makewheel x = new Makewheel();
        x.write(0, 10);
        x.write(6, 70);
        x.write(19, 999);
        give(x, 0, SUM, 0, 1, 2, FILE, 0);
        give(x, 1, TENTH, 3, 2, 3, FOLDER, 1, TARGET, 0);
        give(x, 2, PICK, 4, 3, 4, TARGET, 1, TURNED, 0);
        give(x, 3, FOLLOW, 5, 4, 5, FILE, 19);
        give(x, 4, LEAK, 7, 5, 6, TARGET, 2, TURNED, 1, TARGET, 3, FILE, 6);
        give(x, 5, SUM, 9, 6, 7, TARGET, 9);
        give(x, 6, SUM, 9, 6, 8, TARGET, 7);
        give(x, 7, SUM, 9, 6, 9, TURNED, 6);
        give(x, 8, SUM, 9, 7, 10, TARGET, 0, TARGET, 4, TARGET, 5);
        x.poison(0, true);
        x.build(0, 1);
        x.build(4, 0);
        x.checks(true);
        for (int salt = 0; salt < 3; salt++) {
            x.rule(15, SUM, 0, salt, 1);
            x.build(15, 0);
        }
        x.checks(false);
        x.build(4, 1);
        x.build(0, 1);
        x.poison(2, true);
        x.forget();
        x.build(1, 0);
        x.write(6, 90);
        x.write(19, 998);
        x.fails(3, 5);
        x.fails(15, 20);
        x.build(8, 0);
        x.vanish(3);
        x.checks(true);
        return x;
    }

    /** All that can be asked, and what comes when it goes on: some 350 calls. */
    private static List<Object> picture(Makewheel x) {
        List<Object> answers = new ArrayList<>();
        for (int node = 0; node < 32; node++) {
            answers.add(x.plain(node / 2, node % 2));
            answers.add(x.done(node / 2, node % 2));
            answers.add(x.why(node / 2, node % 2));
            answers.add(x.time(node / 2, node % 2, 1 + node % 3));
        }
        told(x, answers);
        for (int target = 0; target < 16; target++) {
            answers.add(x.needs(target));
            answers.add(x.users(target));
            answers.add(x.users(100 + target));
            answers.add(x.ring(target));
            answers.add(target == 8 ? 0 : x.way(8, target, target % 4));
        }
        goesOn(x, answers);
        return answers;
    }

    private static void told(Makewheel x, List<Object> answers) {
        for (int what = 0; what < 4; what++) {
            answers.add(x.counts(what));
        }
        answers.add(x.entries());
        answers.add(x.away());
        answers.add(x.leaks());
    }

    private static void goesOn(Makewheel x, List<Object> answers) {
        for (int target : new int[] {8, 4, 6, 15, 1}) {
            answers.add(x.build(target, target % 2));
            told(x, answers);
            answers.add(x.build(target, 1 - target % 2));
            told(x, answers);
        }
        for (int target = 0; target < 16; target++) {
            answers.add(x.fails(target, 0));
            int each = target;
            answers.add(Due.answerOf(() -> x.input(each, FILE, 0)));
        }
        answers.add(x.vanish(0));
        answers.add(x.checks(false));
        for (int machine = 0; machine < 3; machine++) {
            answers.add(x.poison(machine, false));
        }
        for (int file = 0; file < 20; file++) {
            answers.add(x.write(file, NONE));
        }
        answers.add(x.forget());
        answers.add(x.empty());
    }
}
