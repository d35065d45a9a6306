/**
 * The sentences of the promises 1 to 23 that name a boundary, one test each: the least and the
 * most that a call takes, what is empty, full, first or last. (Refused calls are RefusedTest's,
 * what goes on within a build is BuildEdgeTest's.)
 */
public final class CallEdgeTest extends Given {
    private static final int ALL = 65535;

    private CallEdgeTest() {
    }

    public static void main(String[] arguments) {
        lastCall();
        newObject();
        writeTakesAwayOrWrites();
        ruleTakesTheLeastAndTheMost();
        ruleTellsWhetherThereWasOne();
        ruleHasNoInputsThen();
        inputTakesTheFirstAndTheLast();
        inputsUpToFour();
        failsUpToTwenty();
        failsInPlaceOfThoseBefore();
        failuresAreOneTargets();
        poisonBringsBack();
        checksTellWhatTheyWere();
        vanishUpToTwenty();
        vanishNone();
        emptyTheEmptyAndTheFull();
        forgetNothingAndAll();
        buildTheFirstAndTheLast();
        plainChangesNothing();
        doneIsTheLatestBuilds();
        whyByEachReason();
        whyByEachPlace();
        countsOfNoneAndOfAll();
        entriesOfNoneAndOfAll();
        awayOfNoneAndOfAll();
        leaksOfNoneAndOfAll();
        needsOfNoneAndOfAll();
        needsItselfOnARing();
        usersOfNoneAndOfAll();
        usersOfTheFirstAndTheLastOfAFolder();
        usersByEachPlace();
        ringsOfOneToSixteen();
        ringsThatDifferByOne();
        waysOfOneToFifteenSteps();
        wayEndsAtTheOther();
        wayByTheLowerWhereTheyDifferFirst();
        timeOfTheLeastAndTheMost();
        timeOfWhatFails();
        timeByThreeMachines();
        timeWhereOneIsFree();
        timeOfSeveralByTheLowest();
        Due.end("CallEdgeTest");
    }

    private static void lastCall() {
        Makewheel x = new Makewheel();
        x.rule(0, SUM, 0, 0, 1);
        x.input(0, FILE, 0);
        for (int content = 0; content < 254; content++) {
            x.write(0, content);
            x.build(0, 0);
        }
        due("face: call 511", 253, () -> x.write(0, 999));
        due("face: call 512", 999, () -> x.build(0, 0));
    }

    private static void newObject() {
        Makewheel x = new Makewheel();
        due("1: no file 0", MISSING, () -> file(x, 0));
        due("1: no file 19", MISSING, () -> file(x, 19));
        due("1: no rule of 1", NO_RULE, () -> x.build(1, 0));
        due("1: no rule of 15", NO_RULE, () -> x.build(15, 1));
        due("1: no entries", 0, () -> x.empty());
        due("1: checks are off", false, () -> x.checks(false));
        for (int machine = 0; machine < 3; machine++) {
            int each = machine;
            due("1: machine " + machine + " is not away", false, () -> x.poison(each, false));
        }
        Makewheel y = new Makewheel();
        y.write(3, 4);
        y.rule(3, SUM, 0, 0, 1);
        Makewheel z = new Makewheel();
        due("1: objects have files of their own", NONE, () -> z.write(3, NONE));
        due("1: objects have rules of their own", NO_RULE, () -> z.plain(3, 0));
    }

    private static int file(Makewheel x, int file) {
        x.rule(0, SUM, 0, 0, 1);
        x.input(0, FILE, file);
        return x.plain(0, 0);
    }

    private static void writeTakesAwayOrWrites() {
        Makewheel x = new Makewheel();
        for (int file : new int[] {0, 19}) {
            due("2: none was there", NONE, () -> x.write(file, 999));
            due("2: the most", 999, () -> x.write(file, 0));
            due("2: the least is there", 0, () -> file(x, file));
            due("2: the least", 0, () -> x.write(file, NONE));
            due("2: it is taken away", MISSING, () -> file(x, file));
            due("2: taken away, there is none to take away", NONE, () -> x.write(file, NONE));
            due("2: nor then", NONE, () -> x.write(file, 0));
        }
        x.write(18, 5);
        due("2: the file beside it is another", 0, () -> x.write(19, 1));
    }

    private static void ruleTakesTheLeastAndTheMost() {
        Makewheel x = new Makewheel();
        for (int target : new int[] {0, 15}) {
            due("3: the least of all", false, () -> x.rule(target, SUM, 0, 0, 1));
            due("3: is there", 0, () -> x.plain(target, 0));
            due("3: takes the least time", 1, () -> x.time(target, 0, 1));
            due("3: the most of all", true, () -> x.rule(target, LEAK, 999, 999, 20));
            due("3: is there as well", 999, () -> x.plain(target, 1));
            due("3: takes the most time", 20, () -> x.time(target, 1, 1));
            due("3: none, by the least", true, () -> x.rule(target, NONE, 0, 0, 1));
            due("3: none, by the most", false, () -> x.rule(target, NONE, 999, 999, 20));
            due("3: so there is none", NO_RULE, () -> x.plain(target, 0));
        }
    }

    private static void ruleTellsWhetherThereWasOne() {
        Makewheel x = new Makewheel();
        due("3: none before", false, () -> x.rule(7, SUM, 0, 0, 1));
        due("3: the same again", true, () -> x.rule(7, SUM, 0, 0, 1));
        due("3: that of another is none of its own", false, () -> x.rule(8, SUM, 0, 0, 1));
        due("3: taken away", true, () -> x.rule(7, NONE, 0, 0, 1));
        due("3: it was", false, () -> x.rule(7, SUM, 0, 0, 1));
    }

    private static void ruleHasNoInputsThen() {
        Makewheel x = new Makewheel();
        sum(x, 0, FILE, 0, FILE, 1, FILE, 2, FILE, 3);
        x.rule(0, SUM, 0, 5, 1);
        due("3: no input is left of a full rule", 5, () -> x.build(0, 0));
        due("3: nor in the graph", 0, () -> x.users(100));
        sum(x, 0, TARGET, 1);
        x.rule(0, NONE, 0, 0, 1);
        x.rule(0, SUM, 0, 0, 1);
        due("3: nor behind no rule", 0, () -> x.needs(0));
        due("3: so there is room for a first one", 1, () -> x.input(0, FILE, 0));
    }

    private static void inputTakesTheFirstAndTheLast() {
        Makewheel x = new Makewheel();
        int[] last = {19, 3, 15, 15};
        for (int target : new int[] {0, 15}) {
            for (int what = FILE; what <= TURNED; what++) {
                int each = what;
                x.rule(target, SUM, 0, 0, 1);
                due("4: the first of " + what, 1, () -> x.input(target, each, 0));
                due("4: the last of " + what, 2, () -> x.input(target, each, last[each]));
            }
        }
    }

    private static void inputsUpToFour() {
        Makewheel x = new Makewheel();
        x.write(0, 1);
        x.rule(0, SUM, 0, 0, 1);
        for (int many = 1; many <= 4; many++) {
            int each = many;
            due("4: input " + many + ", though always the same", each, () -> x.input(0, FILE, 0));
            due("4: each is read", each, () -> x.build(0, 0));
        }
        Due.throwsIt("4: a fifth", STATE, () -> x.input(0, FILE, 0));
        due("4: is not read", 4, () -> x.plain(0, 0));
        x.rule(1, SUM, 0, 0, 1);
        due("4: another target has its own", 1, () -> x.input(1, FILE, 0));
    }

    private static void failsUpToTwenty() {
        Makewheel x = new Makewheel();
        x.rule(15, SUM, 0, 0, 1);
        due("5: the most", 0, () -> x.fails(15, 20));
        for (int build = 0; build < 6; build++) {
            due("5: broken " + build, BROKEN, () -> x.build(15, 0));
        }
        due("5: 18 are used up, and 2 fail yet", 0, () -> x.build(15, 0));
        due("5: so there were 3 runs", 3, () -> x.counts(0));
        due("5: none fails yet", 0, () -> x.fails(15, 0));
        due("5: the least", 0, () -> x.fails(15, 0));
    }

    private static void failsInPlaceOfThoseBefore() {
        Makewheel x = new Makewheel();
        x.rule(0, SUM, 0, 0, 1);
        x.fails(0, 20);
        due("5: the last told counts", 20, () -> x.fails(0, 1));
        due("5: not both together", 1, () -> x.fails(0, 0));
        due("5: none fails then", 0, () -> x.build(0, 0));
        due("5: at the first run", 1, () -> x.counts(0));
        due("5: a target without a rule may be told to", 0, () -> x.fails(5, 2));
        x.rule(5, SUM, 0, 1, 1);
        due("5: a rule does not change it", 2, () -> x.fails(5, 3));
        due("5: three times is broken", BROKEN, () -> x.build(5, 0));
        x.fails(5, 2);
        due("5: twice is not", 1, () -> x.build(5, 1));
    }

    private static void failuresAreOneTargets() {
        Makewheel x = new Makewheel();
        sum(x, 0);
        give(x, 1, SUM, 0, 1, 1, TARGET, 0);
        x.fails(0, 2);
        due("5: the other is run once", 1, () -> x.build(1, 0));
        due("5: one is run three times", 4, () -> x.counts(0));
        x.fails(0, 4);
        due("5: broken in the configuration 1", BROKEN, () -> x.build(0, 1));
        x.empty();
        x.forget();
        due("5: one is left in the configuration 0", 0, () -> x.build(0, 0));
        due("5: so there were two runs", 2, () -> x.counts(0));
    }

    private static void poisonBringsBack() {
        for (int machine = 0; machine < 3; machine++) {
            Makewheel x = new Makewheel();
            int each = machine;
            due("6: it was not away, " + machine, false, () -> x.poison(each, true));
            foundOut(x);
            due("6: it is, " + machine, 1 << each, () -> x.away());
            due("6: to heal another brings none back", false, () -> x.poison((each + 1) % 3, false));
            due("6: it is yet, " + machine, 1 << each, () -> x.away());
            due("6: healed, it was", true, () -> x.poison(each, false));
            due("6: and is not any more", 0, () -> x.away());
            foundOut(x);
            due("6: nor found out again", 0, () -> x.away());
            x.poison(each, true);
            foundOut(x);
            due("6: poisoned again, it is", true, () -> x.poison(each, true));
            due("6: though poisoned yet, it is back", 0, () -> x.away());
        }
    }

    /** Three checked runs, so one on each machine that is not away. */
    private static void foundOut(Makewheel x) {
        x.checks(true);
        x.forget();
        x.empty();
        for (int target = 0; target < 3; target++) {
            x.rule(target, SUM, 0, target, 1);
            x.build(target, 0);
        }
    }

    private static void checksTellWhatTheyWere() {
        Makewheel x = new Makewheel();
        due("7: off to off", false, () -> x.checks(false));
        due("7: off to on", false, () -> x.checks(true));
        due("7: on to on", true, () -> x.checks(true));
        due("7: on to off", true, () -> x.checks(false));
        x.rule(0, SUM, 0, 0, 1);
        x.build(0, 0);
        due("7: off, one run", 1, () -> x.counts(0));
        x.checks(true);
        x.build(0, 0);
        due("7: on, what is reused has no run", 0, () -> x.counts(0));
        x.forget();
        x.build(0, 0);
        due("7: nor what is fetched", 0, () -> x.counts(0));
        x.build(0, 1);
        due("7: on, two runs", 2, () -> x.counts(0));
    }

    private static void vanishUpToTwenty() {
        Makewheel x = new Makewheel();
        x.rule(0, SUM, 0, 0, 1);
        x.build(0, 0);
        due("8: the most", 0, () -> x.vanish(20));
        for (int fetch = 0; fetch < 20; fetch++) {
            x.forget();
            x.build(0, 0);
            due("8: this one vanishes, " + fetch, RUN, () -> x.done(0, 0));
        }
        x.forget();
        x.build(0, 0);
        due("8: the next so many, and no more", FETCHED, () -> x.done(0, 0));
        due("8: none would vanish yet", 0, () -> x.vanish(0));
    }

    private static void vanishNone() {
        Makewheel x = new Makewheel();
        x.rule(0, SUM, 0, 0, 1);
        x.build(0, 0);
        x.vanish(20);
        due("8: the least, in place of the most", 20, () -> x.vanish(0));
        x.forget();
        x.build(0, 0);
        due("8: none vanishes", FETCHED, () -> x.done(0, 0));
        x.vanish(1);
        x.empty();
        x.forget();
        x.build(0, 0);
        due("8: without an entry none vanishes", 1, () -> x.vanish(1));
        x.build(0, 0);
        due("8: nor where the value is reused", 1, () -> x.vanish(1));
    }

    private static void fill(Makewheel x, int entries) {
        sum(x, 0, FILE, 0);
        for (int content = 0; content < entries; content++) {
            x.write(0, content);
            x.build(0, 0);
        }
    }

    private static void emptyTheEmptyAndTheFull() {
        Makewheel x = new Makewheel();
        due("9: an empty one", 0, () -> x.empty());
        fill(x, 101);
        due("9: a full one", 100, () -> x.empty());
        due("9: is empty then", 0, () -> x.entries());
        due("9: and again", 0, () -> x.empty());
        fill(x, 1);
        due("9: one came", 1, () -> x.empty());
        x.forget();
        fill(x, 100);
        due("9: it fills anew", 100, () -> x.entries());
        x.write(0, 100);
        x.build(0, 0);
        x.write(0, 0);
        x.build(0, 0);
        due("9: of more than 100 since then the first went", RUN, () -> x.done(0, 0));
        x.write(0, 2);
        x.build(0, 0);
        due("9: and no others than that and the second", FETCHED, () -> x.done(0, 0));
    }

    private static void forgetNothingAndAll() {
        Makewheel x = new Makewheel();
        due("10: nothing is kept", 0, () -> x.forget());
        allInOneRow(x, 1);
        x.write(0, 0);
        x.build(0, 0);
        due("10: all", 32, () -> x.forget());
        due("10: nothing then", 0, () -> x.forget());
        due("10: but the cache", 32, () -> x.entries());
        x.build(15, 1);
        due("10: one is kept", 1, () -> x.forget());
        due("10: one was fetched", 1, () -> x.counts(1));
    }

    /** From the target 0 in the configuration 0 all 32 nodes in one row, down to the file 0. */
    private static void allInOneRow(Makewheel x, int time) {
        for (int target = 0; target < 15; target++) {
            give(x, target, SUM, 0, 1, time, TARGET, target + 1);
        }
        give(x, 15, PICK, 0, 1, time, TURNED, 0, FILE, 0);
    }

    private static void buildTheFirstAndTheLast() {
        Makewheel x = new Makewheel();
        for (int target : new int[] {0, 15}) {
            for (int configuration : new int[] {0, 1}) {
                due("11: no rule of " + target, NO_RULE, () -> x.build(target, configuration));
                x.rule(target, SUM, 0, 999, 1);
                due("11: the most", 999, () -> x.build(target, configuration));
                x.rule(target, SUM, 0, 0, 1);
                due("11: the least", 0, () -> x.build(target, configuration));
                x.rule(target, NONE, 0, 0, 1);
                due("11: no rule again", NO_RULE, () -> x.build(target, configuration));
                due("11: nothing is kept of it any more", 0, () -> x.forget());
            }
        }
    }

    private static void plainChangesNothing() {
        Makewheel x = new Makewheel();
        for (int target : new int[] {0, 15}) {
            for (int configuration : new int[] {0, 1}) {
                due("12: no rule", NO_RULE, () -> x.plain(target, configuration));
                x.rule(target, LEAK, 3, 999, 1);
                x.fails(target, 20);
                due("12: without actions that fail", 999, () -> x.plain(target, configuration));
                due("12: which are left", 20, () -> x.fails(target, 0));
                x.rule(target, NONE, 0, 0, 1);
            }
        }
        due("12: no leak", 0, () -> x.leaks());
        due("12: no entry", 0, () -> x.entries());
        due("12: nothing kept", 0, () -> x.forget());
        due("12: no build", 0, () -> x.counts(3));
        due("12: nothing done", UNSEEN, () -> x.done(15, 1));
        x.rule(0, SUM, 0, 0, 1);
        x.poison(0, true);
        for (int call = 0; call < 4; call++) {
            due("12: without machines", 0, () -> x.plain(0, 0));
        }
        due("12: no machine's turn was taken", 1, () -> x.build(0, 0));
        due("12: without what is kept and the cache", 0, () -> x.plain(0, 0));
        due("12: of which nothing is gone", 1, () -> x.build(0, 0));
        due("12: reused", REUSED, () -> x.done(0, 0));
    }

    private static void doneIsTheLatestBuilds() {
        Makewheel x = new Makewheel();
        due("13: without a build, the first", UNSEEN, () -> x.done(0, 0));
        due("13: without a build, the last", UNSEEN, () -> x.done(15, 1));
        x.rule(15, SUM, 0, 0, 1);
        x.build(15, 1);
        due("13: run", RUN, () -> x.done(15, 1));
        due("13: the other one is unseen", UNSEEN, () -> x.done(15, 0));
        x.build(0, 0);
        due("13: unseen in the latest", UNSEEN, () -> x.done(15, 1));
        due("13: failed in it", FAILED, () -> x.done(0, 0));
        x.build(15, 1);
        due("13: reused", REUSED, () -> x.done(15, 1));
        x.forget();
        due("13: forgetting is no build", REUSED, () -> x.done(15, 1));
        x.build(15, 1);
        due("13: fetched", FETCHED, () -> x.done(15, 1));
        Due.throwsIt("13: a refused build", INDEX, () -> x.build(16, 1));
        due("13: is none", FETCHED, () -> x.done(15, 1));
        x.plain(0, 0);
        x.time(0, 0, 1);
        due("13: nor are plain and time", FETCHED, () -> x.done(15, 1));
    }

    private static void whyByEachReason() {
        Makewheel x = new Makewheel();
        due("14: without a build, the first", 0, () -> x.why(0, 0));
        due("14: without a build, the last", 0, () -> x.why(15, 1));
        x.build(15, 1);
        due("14: no rule, and nothing kept", 1, () -> x.why(15, 1));
        due("14: not looked at", 0, () -> x.why(15, 0));
        x.rule(15, SUM, 0, 0, 1);
        x.build(15, 1);
        due("14: run", 1, () -> x.why(15, 1));
        x.forget();
        x.build(15, 1);
        due("14: fetched", 1, () -> x.why(15, 1));
        x.build(15, 1);
        due("14: reused", 0, () -> x.why(15, 1));
        x.rule(15, NONE, 0, 0, 1);
        x.build(15, 1);
        due("14: no rule any more", 2, () -> x.why(15, 1));
        x.build(15, 1);
        due("14: so nothing is kept", 1, () -> x.why(15, 1));
        int[][] others = {{TENTH, 5, 6, 7}, {SUM, 6, 6, 7}, {SUM, 5, 7, 7}, {SUM, 5, 6, 8}};
        for (int[] other : others) {
            give(x, 3, SUM, 5, 6, 7, FOLDER, 0);
            x.build(3, 0);
            give(x, 3, other[0], other[1], other[2], other[3], FOLDER, 0);
            x.build(3, 0);
            due("14: kind, number, salt or time", 2, () -> x.why(3, 0));
        }
        int[][] inputs = {{}, {FOLDER, 1}, {TARGET, 1}, {TURNED, 15}, {FOLDER, 0, FOLDER, 1, FOLDER, 0},
            {FOLDER, 1, FOLDER, 0}};
        for (int[] other : inputs) {
            give(x, 3, SUM, 5, 6, 7, FOLDER, 0, FOLDER, 1);
            x.build(3, 0);
            give(x, 3, SUM, 5, 6, 7, other);
            x.build(3, 0);
            due("14: inputs", 2, () -> x.why(3, 0));
        }
        give(x, 3, PICK, 0, 0, 1, FOLDER, 0, FOLDER, 1);
        x.build(3, 0);
        give(x, 3, PICK, 0, 0, 1, FOLDER, 0, FOLDER, 2);
        x.build(3, 0);
        due("14: an input that is not read, too", 2, () -> x.why(3, 0));
    }

    private static void whyByEachPlace() {
        Makewheel x = new Makewheel();
        for (int file = 0; file < 4; file++) {
            x.write(file, 1);
        }
        give(x, 0, FOLLOW, 0, 0, 1, FILE, 0, FILE, 1, FILE, 2, FILE, 3);
        x.build(0, 0);
        for (int file = 0; file < 4; file++) {
            int each = file;
            x.write(file, 41);
            x.build(0, 0);
            due("14: place " + file, 10 + each, () -> x.why(0, 0));
        }
        x.write(4, 0);
        x.build(0, 0);
        due("14: the found file behind all four", 14, () -> x.why(0, 0));
        x.write(3, 1);
        x.write(2, 1);
        x.build(0, 0);
        due("14: the first of two", 12, () -> x.why(0, 0));
        give(x, 1, PICK, 0, 0, 1, FILE, 0, FILE, 1, FILE, 2);
        x.build(1, 1);
        x.write(1, 2);
        x.build(1, 1);
        due("14: the input 1 is at the place 0 of those read", 10, () -> x.why(1, 1));
        give(x, 2, FOLLOW, 0, 0, 1);
        x.build(2, 0);
        x.write(0, 3);
        x.build(2, 0);
        due("14: a found file without inputs is at the place 0", 10, () -> x.why(2, 0));
        give(x, 3, SUM, 0, 0, 1, FILE, 0, FILE, 0);
        x.build(3, 0);
        x.write(0, 4);
        x.build(3, 0);
        due("14: the same file twice", 10, () -> x.why(3, 0));
    }

    private static void countsOfNoneAndOfAll() {
        Makewheel x = new Makewheel();
        counted(x, "without a build", 0, 0, 0, 0);
        x.plain(0, 0);
        counted(x, "plain is none", 0, 0, 0, 0);
        x.build(0, 0);
        counted(x, "one that fails", 0, 0, 0, 1);
        allInOneRow(x, 1);
        x.write(0, 0);
        x.checks(true);
        for (int target = 0; target < 16; target++) {
            x.fails(target, 2);
        }
        x.build(0, 0);
        counted(x, "16 run three times, 16 once, and all once at home", 96, 0, 0, 32);
        x.build(0, 0);
        counted(x, "all reused", 0, 0, 32, 32);
        x.forget();
        x.build(0, 0);
        counted(x, "all fetched", 0, 32, 0, 32);
        x.forget();
        x.vanish(20);
        x.build(0, 0);
        counted(x, "twenty vanish, run, and are run at home", 40, 12, 0, 32);
        x.write(0, NONE);
        x.build(0, 0);
        counted(x, "all fail", 0, 0, 0, 32);
        x.write(0, 0);
        x.build(15, 1);
        counted(x, "only the latest", 0, 1, 0, 1);
    }

    private static void counted(Makewheel x, String what, int... want) {
        for (int each = 0; each < 4; each++) {
            int count = each;
            due("15: " + what + ", " + each, want[each], () -> x.counts(count));
        }
    }

    private static void entriesOfNoneAndOfAll() {
        Makewheel x = new Makewheel();
        due("16: none", 0, () -> x.entries());
        fill(x, 99);
        due("16: one less than full", 99, () -> x.entries());
        x.write(0, 99);
        x.build(0, 0);
        due("16: full", 100, () -> x.entries());
        x.write(0, 100);
        x.build(0, 0);
        due("16: no more", 100, () -> x.entries());
        x.fails(0, 3);
        x.write(0, 101);
        x.build(0, 0);
        due("16: what is broken makes none go", 100, () -> x.entries());
        x.write(0, 1);
        x.build(0, 0);
        due("16: so the second is there yet", FETCHED, () -> x.done(0, 0));
        x.vanish(1);
        x.fails(0, 3);
        x.write(0, 50);
        x.build(0, 0);
        due("16: one vanished, and none came", 99, () -> x.entries());
    }

    private static void awayOfNoneAndOfAll() {
        Makewheel x = new Makewheel();
        due("17: none", 0, () -> x.away());
        for (int machine = 0; machine < 3; machine++) {
            x.poison(machine, true);
        }
        due("17: none by poison alone", 0, () -> x.away());
        x.checks(true);
        int[] want = {1, 3, 7, 7};
        for (int target = 0; target < 4; target++) {
            int each = target;
            x.rule(target, SUM, 0, target, 1);
            x.build(target, 0);
            due("17: one more, up to all", want[each], () -> x.away());
        }
        x.checks(false);
        due("17: without checks, too", 7, () -> x.away());
        x.poison(1, true);
        due("17: all but one", 5, () -> x.away());
    }

    private static void leaksOfNoneAndOfAll() {
        Makewheel x = new Makewheel();
        due("18: none", 0, () -> x.leaks());
        int set = 0;
        for (int target = 0; target < 16; target++) {
            x.rule(target, LEAK, 0, target, 1);
            x.build(target, target % 2);
            set |= 1 << target;
            int want = set;
            due("18: bit " + target, want, () -> x.leaks());
        }
        due("18: all", ALL, () -> x.leaks());
    }

    private static void chain(Makewheel x) {
        for (int target = 0; target < 15; target++) {
            sum(x, target, target % 2 == 0 ? TARGET : TURNED, target + 1);
        }
        sum(x, 15);
    }

    private static void needsOfNoneAndOfAll() {
        Makewheel x = new Makewheel();
        due("19: without rules", 0, () -> x.needs(0));
        chain(x);
        due("19: the last", 0, () -> x.needs(15));
        due("19: directly", 1 << 15, () -> x.needs(14));
        due("19: all others, not itself", ALL - 1, () -> x.needs(0));
        sum(x, 15, TURNED, 0);
        due("19: all, on a ring", ALL, () -> x.needs(0));
        due("19: all, the last as well", ALL, () -> x.needs(15));
        Makewheel y = new Makewheel();
        sum(y, 0, TARGET, 5);
        due("19: one without a rule", 1 << 5, () -> y.needs(0));
        give(y, 1, PICK, 0, 0, 1, FILE, 0, FILE, 1, FILE, 2, TURNED, 15);
        due("19: the input 3, though never read", 1 << 15, () -> y.needs(1));
        sum(y, 2, FILE, 3, FOLDER, 3);
        due("19: files and folders are no targets", 0, () -> y.needs(2));
    }

    private static void needsItselfOnARing() {
        Makewheel x = new Makewheel();
        sum(x, 0, TARGET, 0);
        due("19: itself directly", 1, () -> x.needs(0));
        sum(x, 1, TURNED, 1);
        due("19: itself turned", 2, () -> x.needs(1));
        sum(x, 2, TARGET, 3);
        sum(x, 3, TARGET, 2);
        sum(x, 4, TARGET, 2);
        due("19: on a ring of two", 12, () -> x.needs(2));
        due("19: not on the ring that it needs", 12, () -> x.needs(4));
    }

    private static void usersOfNoneAndOfAll() {
        Makewheel x = new Makewheel();
        due("20: without rules, a target", 0, () -> x.users(0));
        due("20: without rules, the first file", 0, () -> x.users(100));
        due("20: without rules, the last file", 0, () -> x.users(119));
        chain(x);
        due("20: the first", 0, () -> x.users(0));
        due("20: the last target, not itself", ALL - (1 << 15), () -> x.users(15));
        x.input(15, FILE, 19);
        due("20: of the last file, all", ALL, () -> x.users(119));
        due("20: of the file beside it, none", 0, () -> x.users(118));
        x.input(15, TARGET, 0);
        due("20: on a ring, itself as well", ALL, () -> x.users(15));
        due("20: the first as well", ALL, () -> x.users(0));
    }

    private static void usersOfTheFirstAndTheLastOfAFolder() {
        Makewheel x = new Makewheel();
        for (int folder = 0; folder < 4; folder++) {
            sum(x, folder, FOLDER, folder);
        }
        for (int file = 0; file < 20; file++) {
            int each = file;
            due("20: file " + file, 1 << each / 5, () -> x.users(100 + each));
        }
        sum(x, 4, TARGET, 3, FILE, 19);
        due("20: by both ways, but once", 8 + 16, () -> x.users(119));
        due("20: whether it is there or not", 8 + 16, () -> x.users(115));
    }

    private static void usersByEachPlace() {
        for (int place = 0; place < 4; place++) {
            Makewheel x = new Makewheel();
            x.rule(0, PICK, 0, 0, 1);
            x.rule(1, PICK, 0, 0, 1);
            x.rule(2, PICK, 0, 0, 1);
            for (int input = 0; input < 4; input++) {
                x.input(0, FILE, input == place ? 19 : 0);
                x.input(1, FOLDER, input == place ? 3 : 0);
                x.input(2, input % 2 == 0 ? TURNED : TARGET, input == place ? 0 : 9);
            }
            due("20: the file 19 at the place " + place, 7, () -> x.users(119));
            due("20: beside it, its folder's alone", 2, () -> x.users(118));
            due("20: the target 0 at the place " + place, 4, () -> x.users(0));
            due("19: at the place " + place, 1 + 512, () -> x.needs(2));
        }
    }

    private static void ringsThatDifferByOne() {
        Makewheel x = new Makewheel();
        sum(x, 0, TARGET, 1, TARGET, 4);
        sum(x, 1, TARGET, 2);
        sum(x, 2, TARGET, 3);
        sum(x, 3, TARGET, 0);
        sum(x, 4, TURNED, 5);
        sum(x, 5, TARGET, 0);
        due("21: 3 rather than 4", 3, () -> x.ring(0));
        due("21: 4 for one that is on that alone", 4, () -> x.ring(2));
        x.input(5, TARGET, 4);
        due("21: 2 rather than 3", 2, () -> x.ring(5));
        due("21: 3 yet", 3, () -> x.ring(0));
        x.input(4, TURNED, 4);
        due("21: 1 rather than 2", 1, () -> x.ring(4));
        due("21: 2 yet", 2, () -> x.ring(5));
    }

    private static void ringsOfOneToSixteen() {
        for (int length = 1; length <= 16; length++) {
            Makewheel x = new Makewheel();
            for (int target = 0; target < length; target++) {
                sum(x, target, target % 2 == 0 ? TARGET : TURNED, (target + 1) % length);
            }
            int want = length;
            due("21: the first of " + length, want, () -> x.ring(0));
            due("21: the last of " + length, want, () -> x.ring(want - 1));
            due("21: none beside it", length < 16 ? NONE : 16, () -> x.ring(15));
            x.input(0, TURNED, 0);
            due("21: a shorter one", 1, () -> x.ring(0));
            x.rule(length - 1, SUM, 0, 0, 1);
            due("21: none where it is cut", NONE, () -> x.ring(want - 1));
        }
    }

    private static void waysOfOneToFifteenSteps() {
        Makewheel x = new Makewheel();
        chain(x);
        for (int place = 0; place < 16; place++) {
            int each = place;
            due("22: place " + place + " of all", each, () -> x.way(0, 15, each));
        }
        due("22: there are not 17", NONE, () -> x.way(0, 15, 16));
        due("22: nor far more", NONE, () -> x.way(0, 15, Integer.MAX_VALUE));
        due("22: one step, the first", 14, () -> x.way(14, 15, 0));
        due("22: one step, the last", 15, () -> x.way(14, 15, 1));
        due("22: one step, no more", NONE, () -> x.way(14, 15, 2));
        due("22: no way back", NONE, () -> x.way(15, 0, 0));
        due("22: no way to one without a rule", NONE, () -> new Makewheel().way(0, 1, 0));
        x.input(15, TARGET, 0);
        due("22: round the ring", 0, () -> x.way(15, 14, 1));
        due("22: to its end", 14, () -> x.way(15, 14, 15));
        x.input(0, TURNED, 15);
        due("22: the shortest", 15, () -> x.way(0, 15, 1));
        due("22: which has no more", NONE, () -> x.way(0, 15, 2));
    }

    private static void wayEndsAtTheOther() {
        Makewheel x = new Makewheel();
        sum(x, 0, TARGET, 1);
        sum(x, 1, TARGET, 2);
        sum(x, 2, TARGET, 3);
        due("22: its end", 1, () -> x.way(0, 1, 1));
        due("22: and no more, though that needs others", NONE, () -> x.way(0, 1, 2));
        due("22: nor farther", NONE, () -> x.way(0, 1, 3));
        due("22: nor beside it", NONE, () -> x.way(1, 0, 0));
    }

    private static void wayByTheLowerWhereTheyDifferFirst() {
        Makewheel x = new Makewheel();
        sum(x, 15, TARGET, 14, TURNED, 0);
        sum(x, 14, TARGET, 1);
        sum(x, 0, TARGET, 13, TARGET, 12);
        sum(x, 1, TARGET, 7);
        sum(x, 12, TARGET, 7);
        sum(x, 13, TARGET, 7);
        int[] want = {15, 0, 12, 7, NONE};
        for (int place = 0; place < 5; place++) {
            int each = place;
            due("22: place " + place, want[each], () -> x.way(15, 7, each));
        }
    }

    private static void timeOfTheLeastAndTheMost() {
        Makewheel x = new Makewheel();
        x.rule(15, SUM, 0, 0, 1);
        due("23: the least", 1, () -> x.time(15, 1, 1));
        due("23: with more machines than nodes", 1, () -> x.time(15, 1, 3));
        allInOneRow(x, 20);
        x.write(0, 0);
        for (int machines = 1; machines <= 3; machines++) {
            int each = machines;
            due("23: all nodes in one row, each the most", 640, () -> x.time(0, 0, each));
        }
        due("23: the last of the row", 20, () -> x.time(15, 1, 3));
    }

    private static void timeOfWhatFails() {
        Makewheel x = new Makewheel();
        due("23: no rule", NONE, () -> x.time(0, 0, 1));
        sum(x, 0, FILE, 0);
        due("23: a file that is not there", NONE, () -> x.time(0, 0, 3));
        sum(x, 1, TARGET, 1);
        due("23: a ring", NONE, () -> x.time(1, 1, 2));
        sum(x, 2, FOLDER, 0, TARGET, 0);
        due("23: by what it reads", NONE, () -> x.time(2, 0, 1));
        x.write(0, 0);
        due("23: it fails no more", 2, () -> x.time(2, 0, 1));
        x.fails(2, 20);
        due("23: from nothing, without actions that fail", 2, () -> x.time(2, 0, 1));
        due("23: which are left", 20, () -> x.fails(2, 0));
        x.build(2, 0);
        due("23: from nothing, though all is kept", 2, () -> x.time(2, 0, 1));
    }

    private static void timeByThreeMachines() {
        Makewheel x = new Makewheel();
        int[] times = {20, 19, 18, 1};
        for (int target = 0; target < 4; target++) {
            give(x, target, SUM, 0, 0, times[target]);
        }
        give(x, 4, SUM, 0, 0, 2, TARGET, 0, TARGET, 1, TARGET, 2, TARGET, 3);
        due("23: by one, all together", 60, () -> x.time(4, 0, 1));
        due("23: by two, 20 and 1 beside 19 and 18", 39, () -> x.time(4, 0, 2));
        due("23: by three, 1 behind 18", 22, () -> x.time(4, 0, 3));
        give(x, 5, SUM, 0, 0, 3, TARGET, 4, TURNED, 4);
        due("23: both configurations, by one", 123, () -> x.time(5, 0, 1));
        give(x, 6, PICK, 0, 0, 3, TARGET, 3, TARGET, 4);
        due("23: only what is read, in 0", 4, () -> x.time(6, 0, 3));
        due("23: only what is read, in 1", 25, () -> x.time(6, 1, 3));
    }

    private static void timeWhereOneIsFree() {
        Makewheel x = new Makewheel();
        int[] times = {6, 4, 4, 4};
        for (int target = 0; target < 4; target++) {
            give(x, target, SUM, 0, 0, times[target]);
        }
        give(x, 4, SUM, 0, 0, 2, TARGET, 0, TARGET, 1, TARGET, 2, TARGET, 3);
        due("23: by two: one is free at 4, one at 6", 12, () -> x.time(4, 0, 2));
        due("23: by three: two are free at 4", 10, () -> x.time(4, 0, 3));
        due("23: by one: it is free at 6, 10, 14 and 18", 20, () -> x.time(4, 0, 1));
    }

    /**
     * Three begin with equal ways up, 8 each. By two machines all is done at 11 if the short one
     * is among the first two, as the next behind it then runs beside the third; else at 13.
     */
    private static void timeOfSeveralByTheLowest() {
        int[][] places = {{0, 1, 2, 11}, {1, 0, 2, 11}, {2, 0, 1, 13}};
        for (int[] place : places) {
            Makewheel x = new Makewheel();
            give(x, place[0], SUM, 0, 0, 2);
            give(x, place[1], SUM, 0, 0, 5);
            give(x, place[2], SUM, 0, 0, 5);
            give(x, 3, SUM, 0, 0, 3, TARGET, place[0]);
            give(x, 4, SUM, 0, 0, 3, TARGET, 3, TARGET, place[1], TARGET, place[2]);
            due("23: the short one is " + place[0], place[3], () -> x.time(4, 0, 2));
        }
        for (int configuration = 0; configuration < 2; configuration++) {
            int each = configuration;
            Makewheel x = new Makewheel();
            give(x, 1, SUM, 0, 0, 5);
            give(x, 4, SUM, 0, 0, 3, TARGET, 3, TARGET, 1, TURNED, 1);
            give(x, 0, SUM, 0, 0, 2);
            give(x, 3, SUM, 0, 0, 3, TURNED, 0);
            due("23: the lower target first, of either configuration", 11, () -> x.time(4, each, 2));
            give(x, 2, SUM, 0, 0, 2);
            give(x, 3, SUM, 0, 0, 3, TARGET, 2);
            due("23: both of the lower target first", 13, () -> x.time(4, each, 2));
            due("23: by three nothing waits", 8, () -> x.time(4, each, 3));
        }
    }
}
