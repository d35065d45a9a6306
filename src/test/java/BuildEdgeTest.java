/**
 * The sentences under "Terms" that name a boundary, one test each: what is empty or full, the
 * first and the last, where numbers wrap around, where a count ends.
 */
public final class BuildEdgeTest extends Given {
    private BuildEdgeTest() {
    }

    public static void main(String[] arguments) {
        aFolderHasFiveFiles();
        aFileOfNothingIsThere();
        aFolderIsModuloThousand();
        aResultIsModuloThousand();
        nothingElseIsCutAhead();
        tenthIsRoundedDown();
        pickWithoutSuchAnInput();
        followWrapsAtTwenty();
        followBesideItsInputs();
        leakWrapsAtTwenty();
        leakSeesItsFilesAlone();
        leakCountsOnceMore();
        leakIsNotedWhereAnActionWasNear();
        onlyAFileIsMissing();
        theFirstThatFails();
        ringsInBothConfigurations();
        twiceWantedIsNoRing();
        lookedAtOnce();
        keptIsTheLatestThatWasFound();
        comparedUpToTheFirst();
        aFolderIsAsItWas();
        aFoundFileIsAsItWas();
        anEntryNeedsAllTheSame();
        vanishedAsIfNotThere();
        triesUpToThree();
        moreThanAHundredEntries();
        machinesWrapAround();
        machinesLeftOut();
        atHomeIfAllWerePutAway();
        poisonWrapsAround();
        aCheckNeverFails();
        foundOutByOneThatDoesNotFail();
        entriesOfAPutAwayMachine();
        lookedAtStayTillTheEnd();
        beingLookedAtStayTillTheEnd();
        Due.end("BuildEdgeTest");
    }

    private static Makewheel withFiles(int... contents) {
        Makewheel x = new Makewheel();
        for (int file = 0; file < contents.length; file++) {
            x.write(file, contents[file]);
        }
        return x;
    }

    private static void aFolderHasFiveFiles() {
        for (int folder = 0; folder < 4; folder++) {
            Makewheel x = new Makewheel();
            sum(x, 0, FOLDER, folder);
            for (int file = 0; file < 20; file++) {
                x.write(file, 1 + file);
                int want = file / 5 == folder ? 1 + file : 0;
                due("folder " + folder + " and file " + file, want, () -> x.build(0, 0));
                x.write(file, NONE);
            }
            due("folder " + folder + " is empty", 0, () -> x.build(0, 0));
        }
    }

    private static void aFileOfNothingIsThere() {
        Makewheel x = new Makewheel();
        sum(x, 0, FILE, 0);
        due("none is there", MISSING, () -> x.build(0, 0));
        x.write(0, 0);
        due("one of 0 is", 0, () -> x.build(0, 0));
        x.write(0, NONE);
        due("it was", MISSING, () -> x.build(0, 0));
    }

    private static void aFolderIsModuloThousand() {
        Makewheel x = withFiles(999, 0);
        sum(x, 0, FOLDER, 0);
        due("999 is not cut", 999, () -> x.build(0, 0));
        x.write(1, 1);
        due("1000 is", 0, () -> x.build(0, 0));
        x.write(1, 2);
        due("1001 is 1", 1, () -> x.build(0, 0));
        for (int file = 0; file < 5; file++) {
            x.write(file, 999);
        }
        due("the most", 995, () -> x.build(0, 0));
        give(x, 0, TENTH, 0, 0, 1, FOLDER, 0);
        due("ahead of a tenth", 99, () -> x.build(0, 0));
        give(x, 0, TENTH, 0, 0, 1, FOLDER, 0, FOLDER, 0, FOLDER, 0, FOLDER, 0);
        due("each by itself", 398, () -> x.build(0, 0));
    }

    private static void aResultIsModuloThousand() {
        Makewheel x = withFiles(999, 1, 0);
        sum(x, 0, FILE, 0, FILE, 2);
        due("999 is not cut", 999, () -> x.build(0, 0));
        sum(x, 0, FILE, 0, FILE, 1);
        due("1000 is", 0, () -> x.build(0, 0));
        for (int kind : new int[] {SUM, FOLLOW, LEAK}) {
            give(x, 0, kind, 5, 1, 1, FILE, 0);
            due("by the salt, kind " + kind, 0, () -> x.build(0, 0));
            give(x, 0, kind, 5, 999, 1, FILE, 0);
            due("by the most salt, kind " + kind, 998, () -> x.build(0, 0));
            give(x, 0, kind, 5, 999, 1, FILE, 0, FILE, 0, FILE, 0, FILE, 0);
            due("the most of all, kind " + kind, 995, () -> x.build(0, 0));
        }
        give(x, 0, PICK, 0, 1, 1, FILE, 0, FILE, 0);
        due("a pick in 0", 0, () -> x.build(0, 0));
        due("a pick in 1", 0, () -> x.build(0, 1));
        give(x, 0, TENTH, 0, 999, 1, FILE, 0, FILE, 0, FILE, 0, FILE, 0);
        due("a tenth of the most, and the most salt", 398, () -> x.build(0, 0));
        give(x, 0, TENTH, 0, 601, 1, FILE, 0, FILE, 0, FILE, 0, FILE, 0);
        due("a tenth and the salt are 1000", 0, () -> x.build(0, 0));
        give(x, 0, TENTH, 0, 600, 1, FILE, 0, FILE, 0, FILE, 0, FILE, 0);
        due("a tenth and the salt are 999", 999, () -> x.build(0, 0));
    }

    private static void nothingElseIsCutAhead() {
        Makewheel x = withFiles(999, 999, 999, 999);
        give(x, 0, TENTH, 0, 0, 1, FILE, 0, FILE, 1, FILE, 2, FILE, 3);
        due("3996 is not cut ahead of its tenth", 399, () -> x.build(0, 0));
        give(x, 1, SUM, 0, 0, 1, FILE, 0, FILE, 1);
        due("but a target's value was", 998, () -> x.build(1, 0));
        give(x, 2, TENTH, 0, 0, 1, TARGET, 1, TURNED, 1);
        due("each by itself", 199, () -> x.build(2, 0));
    }

    private static void tenthIsRoundedDown() {
        int[][] tenths = {{0, 0}, {1, 0}, {9, 0}, {10, 1}, {19, 1}, {20, 2}, {99, 9}, {100, 10}, {999, 99}};
        Makewheel x = new Makewheel();
        give(x, 0, TENTH, 0, 0, 1, FILE, 0);
        for (int[] tenth : tenths) {
            x.write(0, tenth[0]);
            due("a tenth of " + tenth[0], tenth[1], () -> x.build(0, 0));
        }
        give(x, 0, TENTH, 0, 0, 1);
        due("a tenth of nothing", 0, () -> x.build(0, 0));
        x.write(0, 9);
        give(x, 0, TENTH, 0, 1, 1, FILE, 0);
        due("the salt is no part of it", 1, () -> x.build(0, 0));
    }

    private static void pickWithoutSuchAnInput() {
        Makewheel x = withFiles(7, 8, 9);
        give(x, 0, PICK, 0, 5, 1);
        due("no inputs, in 0", 5, () -> x.build(0, 0));
        due("no inputs, in 1", 5, () -> x.build(0, 1));
        give(x, 0, PICK, 0, 5, 1, FILE, 0);
        due("one, in 0", 12, () -> x.build(0, 0));
        due("one, in 1", 5, () -> x.build(0, 1));
        give(x, 0, PICK, 0, 5, 1, FILE, 0, FILE, 1);
        due("two, in 0", 12, () -> x.build(0, 0));
        due("two, in 1", 13, () -> x.build(0, 1));
        give(x, 0, PICK, 0, 5, 1, TARGET, 9, FILE, 1, FILE, 19, TARGET, 0);
        due("no other is read, in 1", 13, () -> x.build(0, 1));
        due("nor looked at", 1, () -> x.counts(3));
        due("but the input 0 in 0", NO_RULE, () -> x.build(0, 0));
        give(x, 0, PICK, 0, 5, 1, FILE, 0, FILE, 19, FILE, 19, FILE, 19);
        due("no other is read, in 0", 12, () -> x.build(0, 0));
        due("but the input 1 in 1", MISSING, () -> x.build(0, 1));
    }

    private static void followWrapsAtTwenty() {
        Makewheel x = new Makewheel();
        give(x, 0, FOLLOW, 0, 0, 1, FILE, 10, FILE, 11);
        x.write(0, 100);
        x.write(1, 200);
        x.write(19, 300);
        x.write(11, 0);
        int[][] sums = {{0, 100}, {1, 201}, {2, 2}, {18, 18}, {19, 319}, {20, 120}, {21, 221}, {39, 339},
            {40, 140}, {999, 299}, {980, 80}};
        for (int[] sum : sums) {
            x.write(10, sum[0]);
            due("follow " + sum[0], sum[1], () -> x.build(0, 0));
        }
        x.write(10, 999);
        x.write(11, 1);
        due("1000 finds the file 0", 100, () -> x.build(0, 0));
        x.write(11, 0);
        give(x, 0, FOLLOW, 0, 999, 1, FILE, 11);
        due("the salt finds none", 99, () -> x.build(0, 0));
        give(x, 0, FOLLOW, 19, 0, 1, FILE, 11);
        due("nor does the number", 100, () -> x.build(0, 0));
        give(x, 0, FOLLOW, 0, 0, 1);
        due("no inputs find the file 0", 100, () -> x.build(0, 0));
        x.write(0, NONE);
        due("or none", 0, () -> x.build(0, 0));
    }

    private static void followBesideItsInputs() {
        Makewheel x = withFiles(0, 1, 2);
        give(x, 0, FOLLOW, 0, 0, 1, FILE, 1);
        due("an input that is found as well", 2, () -> x.build(0, 0));
        give(x, 0, FOLLOW, 0, 0, 1, FILE, 2, FILE, 0, FILE, 0, FILE, 0);
        due("four inputs, and one found", 4, () -> x.build(0, 0));
        give(x, 0, FOLLOW, 0, 0, 1, FILE, 2, FILE, 2, FILE, 2, FOLDER, 0);
        x.write(9, 500);
        due("four inputs, and one found elsewhere", 509, () -> x.build(0, 0));
        x.write(9, NONE);
        due("and none found, which is no failure", 9, () -> x.build(0, 0));
    }

    private static void leakWrapsAtTwenty() {
        int[][] numbers = {{0, 0}, {19, 19}, {20, 0}, {39, 19}, {40, 0}, {999, 19}, {980, 0}, {981, 1}};
        for (int[] number : numbers) {
            Makewheel x = new Makewheel();
            int seen = number[1];
            x.write(seen, 3);
            x.write(10, 1);
            give(x, 0, LEAK, number[0], 0, 1, FILE, seen);
            due("number " + number[0] + " is the file " + seen, 6, () -> x.build(0, 0));
            give(x, 1, LEAK, number[0], 0, 1, FOLDER, seen / 5);
            due("and in its folder", 6, () -> x.build(1, 0));
            due("no leak", 0, () -> x.leaks());
            give(x, 0, LEAK, number[0], 0, 1, FILE, 10);
            due("and no other one", 1, () -> x.build(0, 0));
            due("a leak", 1, () -> x.leaks());
        }
    }

    private static void leakSeesItsFilesAlone() {
        for (int file = 0; file < 20; file++) {
            Makewheel x = new Makewheel();
            give(x, 0, LEAK, file, 0, 1, FOLDER, file / 5);
            due("empty, but within its folder", 0, () -> x.build(0, 0));
            due("so no leak", 0, () -> x.leaks());
            give(x, 1, LEAK, file, 0, 1, FOLDER, (file / 5 + 1) % 4, FOLDER, (file / 5 + 2) % 4,
                FOLDER, (file / 5 + 3) % 4);
            due("not within all others", 0, () -> x.build(1, 0));
            due("so a leak", 2, () -> x.leaks());
        }
        Makewheel x = withFiles(5, 6);
        sum(x, 0, FILE, 0);
        give(x, 1, LEAK, 0, 0, 1, TARGET, 0);
        due("not the file of a target", 5, () -> x.build(1, 0));
        due("which is a leak", 2, () -> x.leaks());
        give(x, 2, LEAK, 2, 0, 1, TARGET, 0);
        due("nor is the target 2 a file", 5, () -> x.build(2, 1));
        give(x, 0, LEAK, 0, 0, 1);
        due("nothing, without inputs", 0, () -> x.build(0, 0));
        due("leaks of all three", 7, () -> x.leaks());
    }

    private static void leakCountsOnceMore() {
        Makewheel x = withFiles(1, 10);
        give(x, 0, LEAK, 1, 0, 1, FILE, 1, FILE, 1, FOLDER, 0, FILE, 1);
        due("once more, though seen four times", 51, () -> x.build(0, 0));
        give(x, 0, LEAK, 1, 0, 1, FOLDER, 0, FOLDER, 0);
        due("once more, though in two folders", 32, () -> x.build(0, 0));
        give(x, 0, LEAK, 2, 0, 1, FOLDER, 0);
        due("not there, within its folder", 11, () -> x.build(0, 0));
        x.write(2, 0);
        due("there, of 0", 11, () -> x.build(0, 0));
        x.write(2, 999);
        due("there, of the most, in the folder modulo 1000, and itself", 9, () -> x.build(0, 0));
        give(x, 0, LEAK, 3, 0, 1, FILE, 3);
        due("its FILE that is not there is missing", MISSING, () -> x.build(0, 0));
        due("no leak in all that", 0, () -> x.leaks());
    }

    private static void leakIsNotedWhereAnActionWasNear() {
        Makewheel x = new Makewheel();
        give(x, 0, LEAK, 5, 0, 1, FILE, 0);
        x.build(0, 0);
        due("not where an input fails", 0, () -> x.leaks());
        x.write(0, 1);
        x.plain(0, 0);
        x.time(0, 0, 1);
        due("not by plain or time", 0, () -> x.leaks());
        x.fails(0, 3);
        x.build(0, 0);
        due("where its action fails", 1, () -> x.leaks());
        Makewheel y = new Makewheel();
        give(y, 3, LEAK, 5, 0, 1);
        give(y, 4, LEAK, 5, 0, 2);
        y.build(3, 0);
        y.build(4, 0);
        due("where it is fetched", FETCHED, () -> y.done(4, 0));
        due("both", 24, () -> y.leaks());
        y.write(5, 1);
        y.build(3, 0);
        due("what it does not see is not looked at", REUSED, () -> y.done(3, 0));
    }

    private static void onlyAFileIsMissing() {
        Makewheel x = new Makewheel();
        sum(x, 0, FOLDER, 0, FOLDER, 3);
        due("empty folders are not missing", 0, () -> x.build(0, 0));
        give(x, 0, FOLLOW, 0, 7, 1, FOLDER, 0);
        due("nor is a found file", 7, () -> x.build(0, 0));
        give(x, 0, LEAK, 0, 7, 1, FOLDER, 0);
        due("nor is the file of a leak", 7, () -> x.build(0, 0));
        sum(x, 0, FOLDER, 0, FILE, 0);
        due("a FILE is, though within a folder that is read", MISSING, () -> x.build(0, 0));
    }

    private static void theFirstThatFails() {
        int[][] inputs = {{FILE, 0}, {TARGET, 14}, {TARGET, 1}, {TARGET, 2}};
        int[] failures = {MISSING, NO_RULE, RING, BROKEN};
        for (int place = 0; place < 4; place++) {
            for (int first = 0; first < 4; first++) {
                Makewheel x = new Makewheel();
                sum(x, 1, TURNED, 1);
                give(x, 2, SUM, 0, 2, 1);
                x.fails(2, 3);
                x.rule(3, SUM, 0, 3, 1);
                x.rule(4, SUM, 0, 4, 1);
                x.rule(0, SUM, 0, 0, 1);
                for (int good = 0; good < place; good++) {
                    x.input(0, FOLDER, good);
                }
                x.input(0, inputs[first][0], inputs[first][1]);
                if (place < 3) {
                    x.input(0, TARGET, 4);
                }
                int want = failures[first];
                due("at place " + place + " it fails likewise", want, () -> x.build(0, 0));
                due("plainly, too, but if it is broken", want == BROKEN ? place < 3 ? 6 : 2 : want,
                    () -> x.plain(0, 0));
                due("behind it none is read", UNSEEN, () -> x.done(4, 0));
                due("nothing is kept of it", 0, () -> x.forget());
            }
        }
    }

    private static void ringsInBothConfigurations() {
        for (int length = 1; length <= 16; length++) {
            for (int turned = 0; turned < 2; turned++) {
                Makewheel x = new Makewheel();
                for (int target = 0; target < length; target++) {
                    sum(x, target, turned == 1 && target == 0 ? TURNED : TARGET, (target + 1) % length);
                }
                int nodes = length * (1 + turned);
                due("a ring of nodes: " + nodes, RING, () -> x.build(0, 0));
                due("all of them are looked at", nodes, () -> x.counts(3));
                due("plainly, too", RING, () -> x.plain(0, 1));
                due("no time", NONE, () -> x.time(0, 0, 3));
                due("nothing was run", 0, () -> x.counts(0));
            }
        }
        Makewheel x = new Makewheel();
        give(x, 0, PICK, 0, 3, 1, TURNED, 0);
        due("not a ring, as the other one reads none", 3, () -> x.build(0, 1));
        due("and this reads that", 6, () -> x.build(0, 0));
        give(x, 0, PICK, 0, 3, 1, TARGET, 0, TARGET, 0);
        due("a ring in 0", RING, () -> x.build(0, 0));
        due("a ring in 1", RING, () -> x.build(0, 1));
    }

    private static void twiceWantedIsNoRing() {
        Makewheel x = new Makewheel();
        give(x, 0, SUM, 0, 1, 1);
        sum(x, 1, TARGET, 0, TARGET, 0, TARGET, 0, TARGET, 0);
        due("four times", 4, () -> x.build(1, 0));
        sum(x, 2, TARGET, 1, TARGET, 0);
        sum(x, 3, TARGET, 2, TARGET, 1);
        due("by many ways", 9, () -> x.build(3, 0));
        sum(x, 4, TARGET, 5, TARGET, 5);
        sum(x, 5, TARGET, 6, TARGET, 4);
        sum(x, 6);
        due("two that need one another", RING, () -> x.build(4, 0));
        due("what is ahead of that is run", RUN, () -> x.done(6, 0));
        sum(x, 7, TARGET, 6, TARGET, 5);
        due("one that needs them, too", RING, () -> x.build(7, 0));
        due("nothing of those is kept", 5, () -> x.forget());
    }

    private static void lookedAtOnce() {
        Makewheel x = new Makewheel();
        x.fails(0, 4);
        give(x, 0, SUM, 0, 1, 1);
        give(x, 1, PICK, 0, 1, 1, TARGET, 0);
        sum(x, 2, TARGET, 1, TARGET, 0);
        due("broken once", BROKEN, () -> x.build(2, 0));
        due("three runs", 3, () -> x.counts(0));
        due("then not", 3, () -> x.build(2, 0));
        due("each once", 3, () -> x.counts(3));
        due("four runs, as one failed yet", 4, () -> x.counts(0));
        x.vanish(3);
        x.forget();
        sum(x, 3, TARGET, 0, TARGET, 0, TARGET, 0);
        x.build(3, 0);
        due("one fetch vanishes, though it is wanted three times", 2, () -> x.vanish(0));
    }

    private static void keptIsTheLatestThatWasFound() {
        Makewheel x = withFiles(1);
        give(x, 0, SUM, 0, 0, 1, FILE, 0);
        x.build(0, 0);
        x.write(0, 2);
        x.build(0, 0);
        x.write(0, 1);
        x.build(0, 0);
        due("what was kept ahead of the latest is not reused", FETCHED, () -> x.done(0, 0));
        x.write(0, NONE);
        x.write(0, 1);
        x.build(0, 0);
        due("between builds all may go and come", REUSED, () -> x.done(0, 0));
        x.write(0, NONE);
        x.build(0, 0);
        x.write(0, 1);
        x.build(0, 0);
        due("but not over a failure", 1, () -> x.why(0, 0));
        due("after which it is fetched", FETCHED, () -> x.done(0, 0));
        x.rule(0, NONE, 0, 0, 1);
        give(x, 0, SUM, 0, 0, 1, FILE, 0);
        x.build(0, 0);
        due("the same rule may go and come as well", REUSED, () -> x.done(0, 0));
        x.build(0, 1);
        x.build(0, 0);
        due("both configurations keep their own", REUSED, () -> x.done(0, 0));
    }

    private static void comparedUpToTheFirst() {
        Makewheel x = withFiles(1, 5);
        give(x, 0, SUM, 0, 1, 1);
        give(x, 1, PICK, 0, 2, 1, TARGET, 0, FILE, 9);
        give(x, 2, SUM, 0, 0, 1, FILE, 0, TARGET, 1, TURNED, 0);
        due("first", 1 + 3 + 1, () -> x.build(2, 0));
        x.write(0, NONE);
        due("the first is missing", MISSING, () -> x.build(2, 0));
        due("so nothing behind it is looked at", 1, () -> x.counts(3));
        x.write(0, 1);
        x.build(2, 0);
        x.rule(0, NONE, 0, 0, 1);
        due("one in the middle fails", NO_RULE, () -> x.build(2, 0));
        due("it is not as it was", 11, () -> x.why(2, 0));
        due("what is behind it is not looked at", UNSEEN, () -> x.done(0, 1));
        give(x, 0, SUM, 0, 1, 1);
        x.build(2, 0);
        x.write(0, 2);
        x.build(2, 0);
        due("the first is another", 10, () -> x.why(2, 0));
        due("the others are read yet", 4, () -> x.counts(3));
        due("and are as they were", 3, () -> x.counts(2));
    }

    private static void aFolderIsAsItWas() {
        Makewheel x = new Makewheel();
        sum(x, 0, FOLDER, 1);
        x.build(0, 0);
        x.build(0, 0);
        due("an empty one", REUSED, () -> x.done(0, 0));
        x.write(4, 1);
        x.write(10, 1);
        x.build(0, 0);
        due("files beside it do not count", REUSED, () -> x.done(0, 0));
        for (int file = 5; file < 10; file++) {
            x.write(file, 0);
            x.build(0, 0);
            due("one more of 0, " + file, 10, () -> x.why(0, 0));
        }
        for (int file = 5; file < 10; file++) {
            x.write(file, 7);
            x.build(0, 0);
            due("another content, " + file, 10, () -> x.why(0, 0));
        }
        x.write(5, 6);
        x.write(9, 8);
        due("together the same", 35, () -> x.build(0, 0));
        due("but not as it was", RUN, () -> x.done(0, 0));
    }

    private static void aFoundFileIsAsItWas() {
        Makewheel x = withFiles(2);
        give(x, 0, FOLLOW, 0, 0, 1, FILE, 0);
        due("none found", 2, () -> x.build(0, 0));
        x.build(0, 0);
        due("still none", REUSED, () -> x.done(0, 0));
        x.write(2, 0);
        due("one of 0 came", 2, () -> x.build(0, 0));
        due("so it is not as it was", 11, () -> x.why(0, 0));
        x.build(0, 0);
        due("still there", REUSED, () -> x.done(0, 0));
        x.write(2, 1);
        due("another content", 3, () -> x.build(0, 0));
        due("so neither then", 11, () -> x.why(0, 0));
        x.write(2, NONE);
        due("it went", 2, () -> x.build(0, 0));
        due("as it was at first, so fetched", FETCHED, () -> x.done(0, 0));
        x.write(3, 9);
        x.build(0, 0);
        due("what is not found does not count", REUSED, () -> x.done(0, 0));
    }

    private static void anEntryNeedsAllTheSame() {
        int[][] others = {{0, 3, 0, 1, 1}, {0, 2, 1, 1, 1}, {0, 2, 0, 2, 1}, {1, 2, 0, 1, 1}};
        for (int[] other : others) {
            Makewheel x = withFiles(1);
            give(x, 0, 2, 0, 1, 1, FILE, 0, FILE, 0);
            x.build(0, 0);
            give(x, 5, other[1], other[2], other[3], other[4], FILE, 0, FILE, 0);
            x.build(5, other[0]);
            due("kind, number, salt and configuration", RUN, () -> x.done(5, other[0]));
            give(x, 6, 2, 0, 1, 20, FILE, 0, FILE, 0);
            x.build(6, 0);
            due("but neither target nor time", FETCHED, () -> x.done(6, 0));
        }
        Makewheel x = withFiles(1, 1);
        x.write(5, 1);
        int[][] inputs = {{FILE, 0, FILE, 0}, {FILE, 0, FILE, 1}, {FILE, 1, FILE, 0}, {FILE, 0}, {FILE, 0, FOLDER, 1},
            {FOLDER, 1, FILE, 0}, {FILE, 0, FILE, 0, FILE, 0}, {}};
        for (int each = 0; each < inputs.length; each++) {
            sum(x, each, inputs[each]);
            x.build(each, 0);
            int target = each;
            due("inputs of their own, " + each, RUN, () -> x.done(target, 0));
        }
        sum(x, 15, FILE, 0, FOLDER, 1);
        x.build(15, 0);
        due("the same inputs", FETCHED, () -> x.done(15, 0));
        x.write(5, NONE);
        x.write(6, 1);
        x.build(15, 0);
        due("of a folder all its files", RUN, () -> x.done(15, 0));
        sum(x, 10);
        sum(x, 11);
        sum(x, 12, TARGET, 10);
        sum(x, 13, TURNED, 10);
        sum(x, 14, TARGET, 11);
        for (int target = 12; target <= 14; target++) {
            int each = target;
            x.build(target, 0);
            due("another target, or turned", RUN, () -> x.done(each, 0));
        }
    }

    private static void vanishedAsIfNotThere() {
        Makewheel x = new Makewheel();
        x.rule(0, SUM, 0, 0, 1);
        x.poison(1, true);
        x.build(0, 0);
        x.forget();
        x.vanish(1);
        due("it is run, by the next machine", 1, () -> x.build(0, 0));
        due("a run", 1, () -> x.counts(0));
        due("no fetch", 0, () -> x.counts(1));
        due("one entry in its place", 1, () -> x.entries());
        x.forget();
        due("with what came last", 1, () -> x.build(0, 0));
        due("a fetch", 1, () -> x.counts(1));
    }

    private static void triesUpToThree() {
        for (int times = 0; times <= 7; times++) {
            Makewheel x = new Makewheel();
            x.rule(0, SUM, 0, 9, 1);
            x.fails(0, times);
            int broken = times / 3;
            for (int build = 0; build < broken; build++) {
                due("three that fail of " + times, BROKEN, () -> x.build(0, 0));
                due("each counts", 3, () -> x.counts(0));
                due("it failed", FAILED, () -> x.done(0, 0));
                due("no entry", 0, () -> x.entries());
                due("nothing kept", 0, () -> x.forget());
            }
            int runs = times % 3 + 1;
            due("fewer that fail of " + times, 9, () -> x.build(0, 0));
            due("each counts, too", runs, () -> x.counts(0));
            due("it was run", RUN, () -> x.done(0, 0));
            due("one entry", 1, () -> x.entries());
        }
        Makewheel x = withFiles(1);
        sum(x, 0, FILE, 0);
        x.build(0, 0);
        x.write(0, 2);
        x.fails(0, 3);
        due("broken, though something was kept", BROKEN, () -> x.build(0, 0));
        x.write(0, 1);
        x.build(0, 0);
        due("of which nothing is kept any more", 1, () -> x.why(0, 0));
        due("but the entry is there", FETCHED, () -> x.done(0, 0));
    }

    private static void moreThanAHundredEntries() {
        Makewheel x = new Makewheel();
        sum(x, 0, FILE, 0);
        for (int content = 0; content <= 100; content++) {
            x.write(0, content);
            x.build(0, 0);
        }
        due("a hundred and one came", 100, () -> x.entries());
        for (int content = 100; content > 0; content--) {
            x.write(0, content);
            x.build(0, 0);
            int done = content == 100 ? REUSED : FETCHED;
            due("all but the first are there", done, () -> x.done(0, 0));
        }
        x.write(0, 0);
        x.build(0, 0);
        due("the first is not, and goes in", RUN, () -> x.done(0, 0));
        x.write(0, 1);
        x.build(0, 0);
        due("for the second", RUN, () -> x.done(0, 0));
        x.write(0, 3);
        x.build(0, 0);
        due("which goes in for the third", FETCHED, () -> x.done(0, 0));
        x.write(0, 2);
        x.build(0, 0);
        due("so that is gone", RUN, () -> x.done(0, 0));
        due("a hundred yet", 100, () -> x.entries());
    }

    /** A result of 0 by each machine in turn: 1 if it is poisoned. */
    private static int next(Makewheel x, int salt) {
        x.rule(9, SUM, 0, salt, 1);
        return x.build(9, 0) - salt;
    }

    private static void machinesWrapAround() {
        Makewheel x = new Makewheel();
        x.poison(2, true);
        for (int run = 0; run < 7; run++) {
            int each = run;
            due("run " + run, each % 3 == 2 ? 1 : 0, () -> next(x, each));
        }
        x.fails(9, 1);
        due("one that fails is on a machine, too: 1, then 2", 1, () -> next(x, 10));
        x.fails(9, 3);
        due("three that fail go round", BROKEN - 11, () -> next(x, 11));
        due("so 0 is next", 0, () -> next(x, 12));
        due("then 1", 0, () -> next(x, 13));
        due("then 2", 1, () -> next(x, 14));
        x.checks(true);
        due("a check at home", 0, () -> next(x, 15));
        x.checks(false);
        due("takes no turn: 1", 0, () -> next(x, 16));
        due("2", 1, () -> next(x, 17));
        x.build(9, 0);
        due("reusing takes no turn: 0", 0, () -> next(x, 18));
        next(x, 18);
        x.forget();
        next(x, 18);
        due("nor does fetching: 1", 0, () -> next(x, 19));
        due("then 2, the last time", 1, () -> next(x, 20));
    }

    private static void machinesLeftOut() {
        int[][] turns = {{1, 2, 1, 2}, {2, 0, 2, 0}, {0, 1, 0, 1}};
        for (int left = 0; left < 3; left++) {
            Makewheel x = new Makewheel();
            x.poison(left, true);
            x.checks(true);
            for (int run = 0; run <= left; run++) {
                next(x, run);
            }
            int bit = 1 << left;
            due("found out", bit, () -> x.away());
            x.checks(false);
            for (int run = 0; run < 4; run++) {
                int salt = 10 + run;
                int machine = turns[left][run];
                x.poison(machine, true);
                due("without " + left + ", run " + run, 1, () -> next(x, salt));
                x.poison(machine, false);
            }
        }
        Makewheel x = new Makewheel();
        x.poison(0, true);
        x.poison(1, true);
        x.checks(true);
        next(x, 0);
        next(x, 1);
        due("two are put away", 3, () -> x.away());
        x.checks(false);
        x.poison(2, true);
        for (int run = 2; run < 6; run++) {
            int each = run;
            due("the last one is always on", 1, () -> next(x, each));
        }
    }

    private static Makewheel allAway() {
        Makewheel x = new Makewheel();
        x.checks(true);
        for (int machine = 0; machine < 3; machine++) {
            x.poison(machine, true);
            int salt = 900 + machine;
            due("home counts", 0, () -> next(x, salt));
        }
        due("all are away", 7, () -> x.away());
        return x;
    }

    private static void atHomeIfAllWerePutAway() {
        Makewheel x = allAway();
        due("at home", 0, () -> next(x, 1));
        due("one run, with no check", 1, () -> x.counts(0));
        x.checks(false);
        due("at home without checks", 0, () -> next(x, 2));
        x.fails(9, 2);
        due("at home they fail as told", 0, () -> next(x, 3));
        due("three runs", 3, () -> x.counts(0));
        x.checks(true);
        x.fails(9, 3);
        due("and up to three times", BROKEN - 4, () -> next(x, 4));
        due("three runs as well", 3, () -> x.counts(0));
        due("none is left", 0, () -> x.fails(9, 0));
        due("one comes back", true, () -> x.poison(2, true));
        due("and is found out again", 0, () -> next(x, 5));
        due("all entries came from home, and stay", 7, () -> x.entries());
        x.rule(8, SUM, 0, 5, 1);
        x.build(8, 0);
        due("as does the newest", FETCHED, () -> x.done(8, 0));
    }

    private static void poisonWrapsAround() {
        Makewheel x = new Makewheel();
        x.poison(0, true);
        x.rule(0, SUM, 0, 999, 1);
        due("999 and 1 are 0", 0, () -> x.build(0, 0));
        x.poison(1, true);
        x.rule(0, SUM, 0, 998, 1);
        due("998 and 1 are 999", 999, () -> x.build(0, 0));
        x.checks(true);
        x.poison(2, true);
        x.rule(0, LEAK, 0, 999, 1);
        due("999 at home", 999, () -> x.build(0, 0));
        due("which is not 0, so it is found out", 4, () -> x.away());
    }

    private static void aCheckNeverFails() {
        Makewheel x = new Makewheel();
        x.checks(true);
        x.rule(0, SUM, 0, 0, 1);
        x.fails(0, 2);
        due("two fail, the third is good, and so is that at home", 0, () -> x.build(0, 0));
        due("four runs", 4, () -> x.counts(0));
        x.rule(0, SUM, 0, 1, 1);
        x.fails(0, 1);
        x.build(0, 0);
        due("three runs", 3, () -> x.counts(0));
        due("it uses up no failure", 0, () -> x.fails(0, 0));
    }

    private static void foundOutByOneThatDoesNotFail() {
        Makewheel x = new Makewheel();
        x.checks(true);
        x.poison(0, true);
        x.poison(1, true);
        x.rule(0, SUM, 0, 0, 1);
        x.fails(0, 2);
        due("on 0 and 1 it fails, on 2 it is good", 0, () -> x.build(0, 0));
        due("so none is found out", 0, () -> x.away());
        x.rule(0, SUM, 0, 1, 1);
        x.fails(0, 1);
        due("on 0 it fails, on 1 it does not", 1, () -> x.build(0, 0));
        due("1 is found out", 2, () -> x.away());
        due("by three runs", 3, () -> x.counts(0));
    }

    private static void entriesOfAPutAwayMachine() {
        Makewheel x = new Makewheel();
        for (int run = 0; run < 6; run++) {
            next(x, run);
        }
        x.rule(0, SUM, 0, 0, 1);
        x.build(0, 0);
        due("fetched from machine 0", FETCHED, () -> x.done(0, 0));
        x.rule(1, SUM, 0, 1, 1);
        x.build(1, 0);
        due("fetched from machine 1", FETCHED, () -> x.done(1, 0));
        x.poison(0, true);
        x.checks(true);
        due("found out though it was good before", 0, () -> next(x, 6));
        due("two entries are gone, one came from home", 5, () -> x.entries());
        x.build(0, 0);
        due("what was fetched from it is not kept", 1, () -> x.why(0, 0));
        due("nor to be fetched", RUN, () -> x.done(0, 0));
        x.build(1, 0);
        due("what was fetched from another is kept", REUSED, () -> x.done(1, 0));
        x.poison(0, false);
        x.rule(2, SUM, 0, 3, 1);
        x.build(2, 0);
        due("healed, nothing comes back", RUN, () -> x.done(2, 0));
    }

    private static void lookedAtStayTillTheEnd() {
        Makewheel x = withFiles(1);
        x.poison(0, true);
        x.rule(0, SUM, 0, 50, 1);
        due("0 comes from machine 0", 51, () -> x.build(0, 0));
        next(x, 1);
        next(x, 2);
        give(x, 1, SUM, 0, 0, 1, FILE, 0);
        give(x, 2, SUM, 0, 0, 1, TARGET, 0, TARGET, 1, TARGET, 0);
        x.checks(true);
        due("1 finds it out behind 0", 51 + 1 + 51, () -> x.build(2, 0));
        due("0 stayed, and was reused", REUSED, () -> x.done(0, 0));
        due("machine 0 is away", 1, () -> x.away());
        due("1 and 2 were run, and run at home", 4, () -> x.counts(0));
        due("0 is not kept, but 1, 2 and 9 are", 3, () -> x.forget());
        due("nor to be fetched", 50, () -> x.build(0, 0));

        Makewheel y = withFiles(1);
        y.poison(0, true);
        y.rule(0, SUM, 0, 50, 1);
        y.build(0, 0);
        next(y, 1);
        next(y, 2);
        give(y, 1, SUM, 0, 0, 1, FILE, 0);
        give(y, 2, SUM, 0, 0, 1, TARGET, 1, TARGET, 0);
        y.checks(true);
        due("1 finds it out ahead of 0", 1 + 50, () -> y.build(2, 0));
        due("of which nothing is kept by then", 1, () -> y.why(0, 0));
        due("it is run anew", RUN, () -> y.done(0, 0));
        due("all are kept", 4, () -> y.forget());
    }

    private static void beingLookedAtStayTillTheEnd() {
        Makewheel x = withFiles(10);
        x.poison(0, true);
        give(x, 1, TENTH, 0, 0, 1, FILE, 0);
        give(x, 0, SUM, 0, 50, 1, TARGET, 1);
        next(x, 0);
        x.build(1, 0);
        next(x, 2);
        due("0 comes from machine 0", 52, () -> x.build(0, 0));
        next(x, 3);
        next(x, 4);
        x.checks(true);
        x.write(0, 19);
        due("1 finds it out below 0, and is as it was", 52, () -> x.build(0, 0));
        due("so 0 is reused", REUSED, () -> x.done(0, 0));
        due("though machine 0 is away", 1, () -> x.away());
        due("it is not kept then, but 1 and 9 are", 2, () -> x.forget());
        due("nor to be fetched", 51, () -> x.build(0, 0));
        due("anew", RUN, () -> x.done(0, 0));
    }
}
