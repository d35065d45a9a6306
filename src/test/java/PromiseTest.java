/** The promises of DOC.md one by one: ordinary calls, the edges that it names, and wrong ones. */
public final class PromiseTest extends Given {
    private static final int[] WRONG = {-1, -2, 16, 99, 1000, Integer.MAX_VALUE, Integer.MIN_VALUE};

    private PromiseTest() {
    }

    public static void main(String[] arguments) {
        newObject();
        write();
        rule();
        input();
        fails();
        poison();
        checks();
        vanish();
        empty();
        forget();
        buildValues();
        buildFailures();
        buildRings();
        buildStopsEarly();
        buildFetches();
        cacheLosesTheFirst();
        machinesInTurn();
        machinesFoundOut();
        foundOutWhileLooking();
        plain();
        done();
        why();
        counts();
        leaks();
        needs();
        users();
        ring();
        way();
        time();
        Due.end("PromiseTest");
    }

    private static void newObject() {
        Makewheel x = new Makewheel();
        for (int file = 0; file < 20; file++) {
            int each = file;
            due("1: no file " + file, NONE, () -> x.write(each, NONE));
        }
        for (int node = 0; node < 32; node++) {
            int target = node / 2;
            int configuration = node % 2;
            due("1: nothing done with " + node, UNSEEN, () -> x.done(target, configuration));
            due("1: no reason for " + node, 0, () -> x.why(target, configuration));
            due("1: no rule for " + node, NO_RULE, () -> x.plain(target, configuration));
            due("1: nothing fails yet", 0, () -> x.fails(target, 0));
        }
        for (int what = 0; what < 4; what++) {
            int each = what;
            due("1: no counts", 0, () -> x.counts(each));
        }
        due("1: no entries", 0, () -> x.entries());
        due("1: nothing away", 0, () -> x.away());
        due("1: no leaks", 0, () -> x.leaks());
        due("1: checks are off", false, () -> x.checks(false));
        due("1: nothing vanishes", 0, () -> x.vanish(0));
        due("1: nothing kept", 0, () -> x.forget());
        due("1: empty", 0, () -> x.empty());
        sum(x, 0);
        x.checks(true);
        for (int machine = 0; machine < 3; machine++) {
            int salt = machine;
            x.rule(0, SUM, 0, salt, 1);
            due("1: machines are not poisoned", machine, () -> x.build(0, 0));
        }
        due("1: so none is put away", 0, () -> x.away());
    }

    private static void write() {
        Makewheel x = new Makewheel();
        due("2: first", NONE, () -> x.write(0, 0));
        due("2: again", 0, () -> x.write(0, 999));
        due("2: taken away", 999, () -> x.write(0, NONE));
        due("2: taken away twice", NONE, () -> x.write(0, NONE));
        due("2: last file", NONE, () -> x.write(19, 5));
        Due.throwsIt("2: file 20", INDEX, () -> x.write(20, 1));
        Due.throwsIt("2: file -1", INDEX, () -> x.write(-1, 1));
        Due.throwsIt("2: file before content", INDEX, () -> x.write(20, 1000));
        Due.throwsIt("2: content 1000", ARGUMENT, () -> x.write(19, 1000));
        Due.throwsIt("2: content -2", ARGUMENT, () -> x.write(19, -2));
        Due.throwsIt("2: content least", ARGUMENT, () -> x.write(19, Integer.MIN_VALUE));
        due("2: nothing changed by a throw", 5, () -> x.write(19, 6));
        for (int file = 0; file < 20; file++) {
            x.write(file, 10 * file);
        }
        for (int file = 0; file < 20; file++) {
            int each = file;
            sum(x, 1, FILE, file);
            due("2: file " + file, 10 * file, () -> x.plain(1, 0));
            sum(x, 1, FOLDER, file / 5);
            due("2: folder of " + file, 100 + 250 * (each / 5), () -> x.plain(1, 0));
        }
    }

    private static void rule() {
        Makewheel x = new Makewheel();
        due("3: the first", false, () -> x.rule(0, LEAK, 999, 999, 20));
        due("3: another", true, () -> x.rule(0, SUM, 0, 0, 1));
        x.input(0, FOLDER, 0);
        due("3: in place of one with inputs", true, () -> x.rule(0, SUM, 0, 7, 1));
        due("3: it has none of them", 1, () -> x.input(0, FOLDER, 1));
        due("3: none", true, () -> x.rule(0, NONE, 0, 0, 1));
        due("3: none again", false, () -> x.rule(0, NONE, 999, 999, 20));
        due("3: last target", false, () -> x.rule(15, TENTH, 1, 1, 1));
        for (int wrong : WRONG) {
            Due.throwsIt("3: target " + wrong, INDEX, () -> x.rule(wrong, SUM, 0, 0, 1));
        }
        Due.throwsIt("3: target before kind", INDEX, () -> x.rule(16, 5, 0, 0, 1));
        for (int kind : new int[] {-2, 5, 1000, Integer.MIN_VALUE, Integer.MAX_VALUE}) {
            Due.throwsIt("3: kind " + kind, ARGUMENT, () -> x.rule(15, kind, 0, 0, 1));
        }
        for (int kind : new int[] {NONE, SUM}) {
            for (int wrong : new int[] {-1, 1000}) {
                Due.throwsIt("3: number " + wrong, ARGUMENT, () -> x.rule(15, kind, wrong, 0, 1));
                Due.throwsIt("3: salt " + wrong, ARGUMENT, () -> x.rule(15, kind, 0, wrong, 1));
            }
            for (int wrong : new int[] {-1, 0, 21}) {
                Due.throwsIt("3: time " + wrong, ARGUMENT, () -> x.rule(15, kind, 0, 0, wrong));
            }
        }
        due("3: nothing changed by a throw", 1, () -> x.plain(15, 0));
    }

    private static void input() {
        Makewheel x = new Makewheel();
        Due.throwsIt("4: no rule", STATE, () -> x.input(0, FILE, 0));
        Due.throwsIt("4: no such file, and no rule", INDEX, () -> x.input(0, FILE, 20));
        Due.throwsIt("4: no such kind, and no rule", ARGUMENT, () -> x.input(0, 4, 0));
        x.rule(0, SUM, 0, 0, 1);
        due("4: one", 1, () -> x.input(0, FILE, 19));
        for (int what : new int[] {-1, 4, 5, Integer.MAX_VALUE, Integer.MIN_VALUE}) {
            Due.throwsIt("4: what " + what, ARGUMENT, () -> x.input(0, what, 0));
            Due.throwsIt("4: what, with a wrong which " + what, ARGUMENT, () -> x.input(0, what, -1));
            Due.throwsIt("4: target before what " + what, INDEX, () -> x.input(16, what, 0));
        }
        int[] firstWrong = {20, 4, 16, 16};
        for (int what = FILE; what <= TURNED; what++) {
            int each = what;
            Due.throwsIt("4: beyond the last of " + what, INDEX, () -> x.input(0, each, firstWrong[each]));
            Due.throwsIt("4: below the first of " + what, INDEX, () -> x.input(0, each, -1));
        }
        for (int wrong : WRONG) {
            Due.throwsIt("4: target " + wrong, INDEX, () -> x.input(wrong, FILE, 0));
        }
        due("4: two", 2, () -> x.input(0, FOLDER, 3));
        due("4: three", 3, () -> x.input(0, TARGET, 15));
        due("4: four", 4, () -> x.input(0, TURNED, 15));
        Due.throwsIt("4: five", STATE, () -> x.input(0, FILE, 0));
        Due.throwsIt("4: no such file, and full", INDEX, () -> x.input(0, FILE, 20));
        Due.throwsIt("4: no such kind, and full", ARGUMENT, () -> x.input(0, 4, 0));
        x.write(19, 1);
        x.rule(15, SUM, 0, 10, 1);
        due("4: all of them are read", 22, () -> x.build(0, 0));
        x.rule(0, NONE, 0, 0, 1);
        Due.throwsIt("4: no rule any more", STATE, () -> x.input(0, FILE, 0));
    }

    private static void fails() {
        Makewheel x = new Makewheel();
        sum(x, 0);
        sum(x, 1, FILE, 0);
        due("5: first", 0, () -> x.fails(0, 20));
        due("5: in place of it", 20, () -> x.fails(0, 2));
        due("5: others apart", 0, () -> x.fails(1, 0));
        for (int wrong : WRONG) {
            Due.throwsIt("5: target " + wrong, INDEX, () -> x.fails(wrong, 1));
        }
        Due.throwsIt("5: target before times", INDEX, () -> x.fails(16, 21));
        Due.throwsIt("5: 21 times", ARGUMENT, () -> x.fails(0, 21));
        Due.throwsIt("5: -1 times", ARGUMENT, () -> x.fails(0, -1));
        due("5: fails twice, not a third time", 0, () -> x.build(0, 0));
        due("5: three runs", 3, () -> x.counts(0));
        due("5: none left", 0, () -> x.fails(0, 4));
        due("5: reuse needs no action", 0, () -> x.build(0, 0));
        x.rule(0, SUM, 0, 1, 1);
        due("5: fails three times", BROKEN, () -> x.build(0, 0));
        due("5: one is left", 1, () -> x.fails(0, 1));
        due("5: both configurations use them up", 1, () -> x.build(0, 1));
        due("5: by one", 2, () -> x.counts(0));
        due("5: none is left", 0, () -> x.fails(0, 0));
        x.fails(1, 1);
        due("5: an input that fails is no action", MISSING, () -> x.build(1, 0));
        due("5: so it is left", 1, () -> x.fails(1, 0));
    }

    private static void poison() {
        Makewheel x = new Makewheel();
        sum(x, 0, FILE, 0);
        x.write(0, 999);
        for (int wrong : new int[] {-1, 3, Integer.MAX_VALUE, Integer.MIN_VALUE}) {
            Due.throwsIt("6: machine " + wrong, INDEX, () -> x.poison(wrong, true));
        }
        due("6: not away", false, () -> x.poison(0, true));
        due("6: one more than the result, modulo 1000", 0, () -> x.build(0, 0));
        due("6: nothing is put away without checks", 0, () -> x.away());
        x.checks(true);
        x.poison(2, true);
        due("6: machine 1 is not poisoned", 999, () -> x.build(0, 1));
        x.write(0, 5);
        due("6: machine 2 is found out", 5, () -> x.build(0, 0));
        due("6: away", 4, () -> x.away());
        due("6: poisoned anew, it comes back", true, () -> x.poison(2, true));
        due("6: it is back", 0, () -> x.away());
        due("6: was not away", false, () -> x.poison(2, true));
        x.write(0, 6);
        x.poison(0, false);
        due("6: healed", 6, () -> x.build(0, 0));
        due("6: so not found out", 0, () -> x.away());
        due("6: with a home run", 2, () -> x.counts(0));
    }

    private static void checks() {
        Makewheel x = new Makewheel();
        due("7: off", false, () -> x.checks(true));
        due("7: on", true, () -> x.checks(true));
        due("7: on again", true, () -> x.checks(false));
        due("7: off again", false, () -> x.checks(false));
        sum(x, 0);
        x.build(0, 0);
        due("7: one run without", 1, () -> x.counts(0));
        x.checks(true);
        x.build(0, 1);
        due("7: two runs with", 2, () -> x.counts(0));
        x.fails(0, 2);
        x.rule(0, SUM, 0, 1, 1);
        due("7: the run at home never fails", 1, () -> x.build(0, 0));
        due("7: and only comes with a good one", 4, () -> x.counts(0));
        x.fails(0, 3);
        due("7: three that fail", BROKEN, () -> x.build(0, 1));
        due("7: have none at home", 3, () -> x.counts(0));
    }

    private static void vanish() {
        Makewheel x = new Makewheel();
        Due.throwsIt("8: 21", ARGUMENT, () -> x.vanish(21));
        Due.throwsIt("8: -1", ARGUMENT, () -> x.vanish(-1));
        due("8: first", 0, () -> x.vanish(20));
        due("8: in place", 20, () -> x.vanish(1));
        sum(x, 0);
        sum(x, 1, FILE, 0);
        x.build(0, 0);
        due("8: none used without an entry", 1, () -> x.vanish(1));
        x.forget();
        due("8: as if not there", 0, () -> x.build(0, 0));
        due("8: so run", RUN, () -> x.done(0, 0));
        due("8: not counted as a fetch", 0, () -> x.counts(1));
        due("8: used up", 0, () -> x.vanish(0));
        due("8: the new one is the only entry", 1, () -> x.entries());
        x.forget();
        x.build(0, 0);
        due("8: the next fetch does not vanish", FETCHED, () -> x.done(0, 0));
        x.vanish(2);
        x.fails(0, 3);
        x.forget();
        due("8: gone, and broken", BROKEN, () -> x.build(0, 0));
        due("8: no entry is left", 0, () -> x.entries());
        due("8: one is left to vanish", 1, () -> x.vanish(0));
    }

    private static void empty() {
        Makewheel x = new Makewheel();
        sum(x, 0);
        sum(x, 1, TARGET, 0);
        x.build(1, 0);
        due("9: two", 2, () -> x.empty());
        due("9: none", 0, () -> x.empty());
        due("9: entries", 0, () -> x.entries());
        x.build(1, 0);
        due("9: what is kept stays", 2, () -> x.counts(2));
        x.forget();
        x.build(1, 0);
        due("9: nothing to fetch", 2, () -> x.counts(0));
    }

    private static void forget() {
        Makewheel x = new Makewheel();
        sum(x, 0);
        sum(x, 1, TARGET, 0, TURNED, 0);
        x.build(1, 0);
        due("10: three", 3, () -> x.forget());
        due("10: none", 0, () -> x.forget());
        due("10: the latest build is told yet", RUN, () -> x.done(1, 0));
        due("10: not the cache", 3, () -> x.entries());
        x.build(1, 0);
        due("10: all fetched", 3, () -> x.counts(1));
        x.rule(0, NONE, 0, 0, 1);
        x.build(1, 0);
        due("10: nothing is kept of what failed", 1, () -> x.forget());
    }

    private static void buildValues() {
        Makewheel x = new Makewheel();
        for (int file = 0; file < 5; file++) {
            x.write(file, 999);
        }
        x.write(6, 9);
        x.write(8, 30);
        give(x, 0, SUM, 7, 3, 1, FOLDER, 0, FILE, 6, FILE, 6);
        due("11: SUM, a folder modulo 1000", 995 + 18 + 3 - 1000, () -> x.build(0, 0));
        give(x, 0, SUM, 0, 0, 1, FOLDER, 3);
        due("11: an empty folder", 0, () -> x.build(0, 0));
        give(x, 0, TENTH, 0, 0, 1, FOLDER, 0, FOLDER, 0, FILE, 0, FILE, 6);
        due("11: TENTH, cut after the tenth", (995 + 995 + 999 + 9) / 10, () -> x.build(0, 0));
        give(x, 0, TENTH, 0, 999, 1, FILE, 6);
        due("11: TENTH, the salt behind the tenth", 999, () -> x.build(0, 0));
        give(x, 0, PICK, 0, 5, 1, FILE, 6, FILE, 8, FILE, 19);
        due("11: PICK in 0", 14, () -> x.build(0, 0));
        due("11: PICK in 1", 35, () -> x.build(0, 1));
        give(x, 0, PICK, 0, 5, 1, FILE, 6);
        due("11: PICK without an input 1", 5, () -> x.build(0, 1));
        give(x, 0, PICK, 0, 5, 1);
        due("11: PICK without inputs", 5, () -> x.build(0, 0));
        give(x, 0, FOLLOW, 0, 1, 1, FILE, 8, FILE, 6, FILE, 6);
        due("11: FOLLOW finds 8 modulo 20, without the salt", 30 + 9 + 9 + 30 + 1, () -> x.build(0, 0));
        give(x, 0, FOLLOW, 0, 1, 1, FILE, 6);
        due("11: FOLLOW finds none", 10, () -> x.build(0, 0));
        give(x, 0, FOLLOW, 0, 1, 1);
        due("11: FOLLOW of nothing finds 0", 0, () -> x.build(0, 0));
        give(x, 0, LEAK, 26, 1, 1, FILE, 6);
        due("11: LEAK sees its FILE once more", 19, () -> x.build(0, 0));
        give(x, 0, LEAK, 26, 1, 1, FOLDER, 1, FILE, 6);
        due("11: and within a FOLDER, but once", 39 + 9 + 9 + 1, () -> x.build(0, 0));
        give(x, 0, LEAK, 27, 1, 1, FOLDER, 1);
        due("11: and not if it is not there", 40, () -> x.build(0, 0));
        give(x, 0, LEAK, 6, 1, 1, FILE, 8);
        due("11: LEAK sees no other file", 31, () -> x.build(0, 0));
        give(x, 0, SUM, 0, 0, 1, FILE, 6);
        give(x, 1, PICK, 0, 100, 1, TARGET, 0, FILE, 8);
        give(x, 2, SUM, 0, 0, 1, TARGET, 1, TURNED, 1);
        due("11: both configurations", 109 + 130, () -> x.build(2, 0));
        give(x, 3, PICK, 0, 0, 1, TURNED, 1, TURNED, 1);
        due("11: turned in 0", 130, () -> x.build(3, 0));
        due("11: turned in 1", 109, () -> x.build(3, 1));
        for (int wrong : WRONG) {
            Due.throwsIt("11: target " + wrong, INDEX, () -> x.build(wrong, 0));
            Due.throwsIt("11: configuration " + wrong, INDEX, () -> x.build(0, wrong));
        }
        Due.throwsIt("11: configuration 2", INDEX, () -> x.build(0, 2));
        due("11: a throw leaves the latest build", 3, () -> x.counts(3));
    }

    private static void buildFailures() {
        Makewheel x = new Makewheel();
        due("11: NO_RULE", NO_RULE, () -> x.build(0, 0));
        sum(x, 0, FILE, 0);
        due("11: MISSING", MISSING, () -> x.build(0, 0));
        sum(x, 1, TARGET, 2, FILE, 0);
        due("11: the first that fails", NO_RULE, () -> x.build(1, 0));
        sum(x, 1, FILE, 0, TARGET, 2);
        due("11: the first that fails, the other way", MISSING, () -> x.build(1, 0));
        due("11: the others are not read", UNSEEN, () -> x.done(2, 0));
        sum(x, 2);
        sum(x, 1, TARGET, 2, TARGET, 0, TURNED, 2);
        due("11: in the middle", MISSING, () -> x.build(1, 0));
        due("11: ahead of it is read", RUN, () -> x.done(2, 0));
        due("11: behind it is not", UNSEEN, () -> x.done(2, 1));
        x.fails(2, 3);
        x.forget();
        x.empty();
        due("11: BROKEN goes up", BROKEN, () -> x.build(1, 0));
        due("11: no action of the node itself", 3, () -> x.counts(0));
        due("11: failed, too", FAILED, () -> x.done(1, 0));
        due("11: no entry", 0, () -> x.entries());
        due("11: nothing kept", 0, () -> x.forget());
        x.write(0, 4);
        due("11: then it is built", 4, () -> x.build(1, 0));
        x.write(0, NONE);
        due("11: then not", MISSING, () -> x.build(1, 0));
        due("11: and what was kept of both is gone", 2, () -> x.forget());
    }

    private static void buildRings() {
        Makewheel x = new Makewheel();
        sum(x, 0, TARGET, 0);
        due("11: itself", RING, () -> x.build(0, 0));
        due("11: looked at once", 1, () -> x.counts(3));
        sum(x, 0, TURNED, 0);
        due("11: itself, turned twice", RING, () -> x.build(0, 0));
        due("11: both looked at", 2, () -> x.counts(3));
        give(x, 0, PICK, 0, 0, 1, TURNED, 0);
        due("11: turned once", 0, () -> x.build(0, 0));
        sum(x, 0);
        sum(x, 1, TARGET, 0);
        sum(x, 2, TARGET, 1);
        due("11: no ring yet", 0, () -> x.build(2, 0));
        sum(x, 0, TARGET, 2);
        for (int target = 0; target < 3; target++) {
            int each = target;
            due("11: all of the ring", RING, () -> x.build(each, 0));
        }
        due("11: nothing of it is kept, but of 0 in 1", 1, () -> x.forget());
        sum(x, 3, TARGET, 1);
        due("11: what needs it", RING, () -> x.build(3, 0));
        sum(x, 3, FILE, 0, TARGET, 1);
        due("11: if it reads so far", MISSING, () -> x.build(3, 0));
        sum(x, 0, FILE, 0, TARGET, 2);
        due("11: a ring that is not read", MISSING, () -> x.build(2, 0));
        Makewheel y = new Makewheel();
        for (int target = 0; target < 16; target++) {
            give(y, target, SUM, 0, 1, 1, TURNED, (target + 1) % 16);
        }
        due("11: the longest ring without a turn", RING, () -> y.build(5, 0));
        due("11: has 16 nodes", 16, () -> y.counts(3));
        give(y, 15, PICK, 0, 1, 1, TARGET, 0, FILE, 0);
        due("11: all nodes in one row", MISSING, () -> y.build(0, 0));
        y.write(0, 100);
        due("11: the row has a value", 116, () -> y.build(0, 0));
        give(y, 15, PICK, 0, 1, 1, FILE, 0, TARGET, 0);
        due("11: sixteen and sixteen", 132, () -> y.build(0, 0));
        due("11: all 32 are looked at", 32, () -> y.counts(3));
        due("11: and run", 32, () -> y.counts(0) + y.counts(1) + y.counts(2));
    }

    private static void buildStopsEarly() {
        Makewheel x = new Makewheel();
        x.write(0, 10);
        give(x, 0, TENTH, 0, 0, 1, FILE, 0);
        sum(x, 1, TARGET, 0);
        sum(x, 2, TARGET, 1);
        x.build(2, 0);
        x.write(0, 19);
        due("11: the tenth is as before", 1, () -> x.build(2, 0));
        due("11: one run", 1, () -> x.counts(0));
        due("11: two reused", 2, () -> x.counts(2));
        x.write(0, 20);
        due("11: the tenth is another", 2, () -> x.build(2, 0));
        due("11: three runs", 3, () -> x.counts(0));
        x.write(7, 1);
        sum(x, 3, FOLDER, 1);
        x.build(3, 0);
        x.write(7, NONE);
        x.write(8, 1);
        due("11: another file with the same content", 1, () -> x.build(3, 0));
        due("11: is not as it was", RUN, () -> x.done(3, 0));
        x.write(9, 0);
        x.build(3, 0);
        due("11: nor is a folder with an empty file more", RUN, () -> x.done(3, 0));
        x.write(9, NONE);
        x.build(3, 0);
        due("11: without it, it is as it was once", FETCHED, () -> x.done(3, 0));
        give(x, 4, FOLLOW, 0, 0, 1, FILE, 8);
        x.write(1, 0);
        due("11: FOLLOW finds a file of 0", 1, () -> x.build(4, 0));
        x.write(1, NONE);
        due("11: and then none", 1, () -> x.build(4, 0));
        due("11: which is not as it was", RUN, () -> x.done(4, 0));
        x.build(4, 0);
        due("11: still none is as it was", REUSED, () -> x.done(4, 0));
        give(x, 5, PICK, 0, 0, 1, FILE, 8, FILE, 1);
        x.build(5, 0);
        x.write(1, 77);
        x.build(5, 0);
        due("11: PICK does not look at the other", REUSED, () -> x.done(5, 0));
        give(x, 6, LEAK, 1, 0, 1, FILE, 8);
        x.build(6, 0);
        x.write(1, 78);
        x.build(6, 0);
        due("11: nor a LEAK at what it does not see", REUSED, () -> x.done(6, 0));
    }

    private static void buildFetches() {
        Makewheel x = new Makewheel();
        x.write(0, 1);
        give(x, 0, SUM, 5, 6, 1, FILE, 0, FOLDER, 1);
        due("11: run", 7, () -> x.build(0, 0));
        give(x, 1, SUM, 5, 6, 20, FILE, 0, FOLDER, 1);
        due("11: the same of another target, with another time", 7, () -> x.build(1, 0));
        due("11: is fetched", FETCHED, () -> x.done(1, 0));
        x.build(1, 1);
        due("11: but not in the other configuration", RUN, () -> x.done(1, 1));
        int[][] others = {{TENTH, 5, 6}, {SUM, 6, 6}, {SUM, 5, 7}};
        for (int[] other : others) {
            give(x, 2, other[0], other[1], other[2], 1, FILE, 0, FOLDER, 1);
            x.build(2, 0);
            due("11: nor with another kind, number or salt", RUN, () -> x.done(2, 0));
        }
        give(x, 2, SUM, 5, 6, 1, FOLDER, 1, FILE, 0);
        x.build(2, 0);
        due("11: nor in another order", RUN, () -> x.done(2, 0));
        give(x, 2, SUM, 5, 6, 1, FILE, 0, FOLDER, 2);
        x.build(2, 0);
        due("11: nor with another folder that is empty, too", RUN, () -> x.done(2, 0));
        give(x, 2, PICK, 5, 6, 1, FILE, 0, FILE, 1);
        x.build(2, 0);
        give(x, 3, PICK, 5, 6, 1, FILE, 0, FILE, 2);
        x.build(3, 0);
        due("11: nor with another input that is not read", RUN, () -> x.done(3, 0));
        give(x, 3, PICK, 5, 6, 2, FILE, 0, FILE, 1);
        x.write(1, 50);
        x.build(3, 0);
        due("11: but its content does not count", FETCHED, () -> x.done(3, 0));
        sum(x, 4);
        sum(x, 5);
        sum(x, 6, TARGET, 4, TARGET, 5);
        x.build(6, 0);
        due("11: an entry of the same build", FETCHED, () -> x.done(5, 0));
        due("11: one fetch", 1, () -> x.counts(1));
        sum(x, 7, TARGET, 5, TARGET, 4);
        x.build(7, 0);
        due("11: other targets with the same values", RUN, () -> x.done(7, 0));
        Makewheel y = new Makewheel();
        y.poison(0, true);
        sum(y, 0);
        y.build(0, 0);
        y.poison(0, false);
        y.forget();
        due("11: what came is fetched, not the result", 1, () -> y.build(0, 0));
    }

    private static void cacheLosesTheFirst() {
        Makewheel x = new Makewheel();
        sum(x, 0, FILE, 0);
        for (int content = 0; content < 100; content++) {
            x.write(0, content);
            x.build(0, 0);
        }
        due("11: a hundred", 100, () -> x.entries());
        x.write(0, 0);
        x.build(0, 0);
        due("11: the first is there yet", FETCHED, () -> x.done(0, 0));
        x.write(0, 100);
        x.build(0, 0);
        due("11: of more than 100", 100, () -> x.entries());
        x.write(0, 1);
        x.build(0, 0);
        due("11: the second is there", FETCHED, () -> x.done(0, 0));
        x.write(0, 0);
        x.build(0, 0);
        due("11: the one that came first went, though it was fetched late", RUN, () -> x.done(0, 0));
        x.write(0, 1);
        x.build(0, 0);
        due("11: then the second went", RUN, () -> x.done(0, 0));
        x.write(0, 0);
        x.build(0, 0);
        due("11: what came anew is there", FETCHED, () -> x.done(0, 0));
        x.write(0, 3);
        x.vanish(1);
        x.build(0, 0);
        due("11: one that vanished comes anew", 100, () -> x.entries());
        x.write(0, 101);
        x.build(0, 0);
        x.write(0, 3);
        x.build(0, 0);
        due("11: as the last one", FETCHED, () -> x.done(0, 0));
        x.write(0, 4);
        x.build(0, 0);
        due("11: the next to go went", RUN, () -> x.done(0, 0));
        due("11: emptied", 100, () -> x.empty());
    }

    private static void machinesInTurn() {
        Makewheel x = new Makewheel();
        sum(x, 0, FILE, 0);
        for (int poisoned = 0; poisoned < 3; poisoned++) {
            for (int machine = 0; machine < 3; machine++) {
                x.poison(machine, machine == poisoned);
            }
            for (int run = 0; run < 6; run++) {
                int content = poisoned * 100 + run * 10;
                x.write(0, content);
                due("11: in turn " + run, content + (run % 3 == poisoned ? 1 : 0), () -> x.build(0, 0));
            }
        }
        x.fails(0, 2);
        x.write(0, 500);
        due("11: runs that fail are on machines 0 and 1", 501, () -> x.build(0, 0));
        x.checks(true);
        x.poison(2, false);
        x.poison(1, true);
        x.write(0, 600);
        x.build(0, 0);
        x.write(0, 601);
        x.build(0, 0);
        due("11: 1 is away", 2, () -> x.away());
        x.checks(false);
        x.poison(0, true);
        int[] ones = {0, 1, 0, 1};
        for (int run = 0; run < 4; run++) {
            int one = ones[run];
            int content = 700 + 10 * run;
            x.write(0, content);
            due("11: then 2 and 0 in turn, " + run, content + one, () -> x.build(0, 0));
        }
        x.poison(1, true);
        x.write(0, 800);
        due("11: then 1 again", 801, () -> x.build(0, 0));
    }

    private static void machinesFoundOut() {
        Makewheel x = new Makewheel();
        x.write(0, 10);
        for (int target = 0; target < 6; target++) {
            give(x, target, SUM, 0, target * 20, 1, FILE, 0);
        }
        x.poison(0, true);
        for (int target = 0; target < 5; target++) {
            int each = target;
            due("11: machine " + target % 3, 10 + 20 * target + (target % 3 == 0 ? 1 : 0), () -> x.build(each, 0));
        }
        due("11: five entries", 5, () -> x.entries());
        x.build(5, 0);
        due("11: machine 2 told the sixth", 6, () -> x.entries());
        x.checks(true);
        x.fails(5, 3);
        x.write(0, 11);
        due("11: those that fail are not checked", BROKEN, () -> x.build(5, 0));
        due("11: so none is found out", 0, () -> x.away());
        due("11: the home result counts", 111, () -> x.build(5, 0));
        due("11: away", 1, () -> x.away());
        due("11: two runs", 2, () -> x.counts(0));
        due("11: both entries of machine 0 are gone, one of home came", 5, () -> x.entries());
        due("11: and what was kept from it, of 0 and 3", 4, () -> x.forget());
        x.write(0, 10);
        due("11: what it told is not fetched", 10, () -> x.build(0, 0));
        due("11: but run", RUN, () -> x.done(0, 0));
        due("11: what others told is fetched", 30, () -> x.build(1, 0));
        due("11: fetched", FETCHED, () -> x.done(1, 0));

        Makewheel y = new Makewheel();
        sum(y, 0, FILE, 0);
        y.write(0, 1);
        y.poison(0, true);
        y.poison(1, true);
        y.poison(2, true);
        y.checks(true);
        for (int content = 1; content <= 3; content++) {
            y.write(0, content);
            y.build(0, 0);
        }
        due("11: all away", 7, () -> y.away());
        due("11: all entries are home's", 3, () -> y.entries());
        y.write(0, 4);
        due("11: at home", 4, () -> y.build(0, 0));
        due("11: one run there", 1, () -> y.counts(0));
        y.fails(0, 5);
        y.write(0, 5);
        due("11: which fails as told", BROKEN, () -> y.build(0, 0));
        due("11: two are left", 2, () -> y.fails(0, 2));
        due("11: then it is good", 5, () -> y.build(0, 0));
        due("11: at the third time", 3, () -> y.counts(0));
        due("11: one of three comes back", true, () -> y.poison(1, false));
        y.write(0, 6);
        due("11: and runs", 6, () -> y.build(0, 0));
        due("11: with a check at home", 2, () -> y.counts(0));
        due("11: the others stay away", 5, () -> y.away());
    }

    /** A machine is found out while nodes that it told are, or were, or will be looked at. */
    private static void foundOutWhileLooking() {
        Makewheel x = new Makewheel();
        x.write(0, 10);
        x.write(1, 100);
        x.poison(0, true);
        give(x, 0, SUM, 0, 1, 1, FILE, 0);
        give(x, 1, TENTH, 0, 2, 1, FILE, 1);
        give(x, 2, SUM, 0, 3, 1, FILE, 0);
        give(x, 3, SUM, 0, 4, 1, TARGET, 0, TARGET, 1, TARGET, 2);
        due("11: 0 is told by machine 0", 12, () -> x.build(0, 0));
        due("11: 1 by machine 1", 12, () -> x.build(1, 0));
        x.rule(9, SUM, 0, 0, 1);
        x.build(9, 0);
        due("11: 2 by machine 0", 14, () -> x.build(2, 0));
        x.rule(9, SUM, 0, 1, 1);
        x.build(9, 0);
        x.rule(9, SUM, 0, 2, 1);
        x.build(9, 0);
        due("11: 3 by machine 0", 12 + 12 + 14 + 4 + 1, () -> x.build(3, 0));
        x.checks(true);
        for (int salt = 3; salt < 5; salt++) {
            x.rule(9, SUM, 0, salt, 1);
            x.build(9, 0);
        }
        x.write(1, 101);
        due("11: 1 finds it out; 3 sees 0 as it was, and 2 anew", 12 + 12 + 13 + 4, () -> x.build(3, 0));
        due("11: 0 was looked at, and stays", REUSED, () -> x.done(0, 0));
        due("11: 1 run", RUN, () -> x.done(1, 0));
        due("11: 2 was not looked at yet", 1, () -> x.why(2, 0));
        due("11: 3 was being looked at, so its inputs are compared", 12, () -> x.why(3, 0));
        due("11: 0 is not kept then, the others are: 1, 2, 3 and 9", 4, () -> x.forget());

        Makewheel y = new Makewheel();
        y.write(1, 100);
        y.poison(0, true);
        give(y, 1, TENTH, 0, 2, 1, FILE, 1);
        give(y, 3, SUM, 0, 4, 1, TARGET, 1);
        y.rule(9, SUM, 0, 0, 1);
        y.build(9, 0);
        y.build(1, 0);
        y.rule(9, SUM, 0, 1, 1);
        y.build(9, 0);
        due("11: 3 by machine 0", 17, () -> y.build(3, 0));
        y.checks(true);
        for (int salt = 2; salt < 4; salt++) {
            y.rule(9, SUM, 0, salt, 1);
            y.build(9, 0);
        }
        y.write(1, 101);
        due("11: 3 is reused, as it was being looked at", 17, () -> y.build(3, 0));
        due("11: reused", REUSED, () -> y.done(3, 0));
        due("11: machine 0 is away", 1, () -> y.away());
        due("11: 3 is not kept then", 16, () -> y.build(3, 0));
        due("11: nothing was kept", 1, () -> y.why(3, 0));

        Makewheel z = new Makewheel();
        z.poison(0, true);
        sum(z, 0);
        z.build(0, 0);
        z.forget();
        due("11: fetched from machine 0", 1, () -> z.build(0, 0));
        z.checks(true);
        z.rule(1, SUM, 0, 1, 1);
        z.build(1, 0);
        z.build(1, 1);
        z.rule(1, SUM, 0, 2, 1);
        z.build(1, 0);
        due("11: found out", 1, () -> z.away());
        due("11: what was fetched from it is not kept", 0, () -> z.build(0, 0));
    }

    private static void plain() {
        Makewheel x = new Makewheel();
        x.write(0, 10);
        give(x, 0, LEAK, 7, 1, 1, FILE, 0);
        sum(x, 1, TARGET, 0, TURNED, 0);
        x.poison(0, true);
        x.poison(1, true);
        x.fails(0, 20);
        x.vanish(5);
        due("12: from nothing", 22, () -> x.plain(1, 0));
        due("12: no leak", 0, () -> x.leaks());
        due("12: no entries", 0, () -> x.entries());
        due("12: nothing kept", 0, () -> x.forget());
        due("12: no failure used", 20, () -> x.fails(0, 0));
        due("12: no machine used", 12, () -> x.build(0, 0));
        x.plain(1, 0);
        due("12: the latest build is told yet", 1, () -> x.counts(3));
        due("12: and what was done in it", RUN, () -> x.done(0, 0));
        due("12: not what was kept", 11, () -> x.plain(0, 0));
        x.forget();
        x.plain(0, 0);
        due("12: no fetch vanishes", 5, () -> x.vanish(0));
        due("12: NO_RULE", NO_RULE, () -> x.plain(5, 1));
        sum(x, 5, TARGET, 1, FILE, 19);
        due("12: MISSING", MISSING, () -> x.plain(5, 1));
        sum(x, 5, TURNED, 5);
        due("12: RING", RING, () -> x.plain(5, 1));
        for (int wrong : WRONG) {
            Due.throwsIt("12: target " + wrong, INDEX, () -> x.plain(wrong, 0));
            Due.throwsIt("12: configuration " + wrong, INDEX, () -> x.plain(0, wrong));
        }
    }

    private static void done() {
        Makewheel x = new Makewheel();
        sum(x, 0);
        sum(x, 1, TARGET, 0, FILE, 0);
        x.build(1, 1);
        due("13: run", RUN, () -> x.done(0, 1));
        due("13: failed", FAILED, () -> x.done(1, 1));
        due("13: unseen in the other configuration", UNSEEN, () -> x.done(0, 0));
        x.write(0, 1);
        x.build(1, 1);
        due("13: reused", REUSED, () -> x.done(0, 1));
        x.forget();
        x.build(0, 1);
        due("13: fetched", FETCHED, () -> x.done(0, 1));
        due("13: only the latest build counts", UNSEEN, () -> x.done(1, 1));
        for (int wrong : WRONG) {
            Due.throwsIt("13: target " + wrong, INDEX, () -> x.done(wrong, 0));
            Due.throwsIt("13: configuration " + wrong, INDEX, () -> x.done(0, wrong));
            Due.throwsIt("14: target " + wrong, INDEX, () -> x.why(wrong, 0));
            Due.throwsIt("14: configuration " + wrong, INDEX, () -> x.why(0, wrong));
        }
    }

    private static void why() {
        Makewheel x = new Makewheel();
        x.write(0, 1);
        x.write(1, 2);
        sum(x, 0);
        give(x, 1, FOLLOW, 0, 0, 1, FILE, 0, FOLDER, 0, TARGET, 0, TURNED, 0);
        x.build(1, 0);
        due("14: nothing was kept", 1, () -> x.why(1, 0));
        due("14: not looked at", 0, () -> x.why(1, 1));
        x.build(1, 0);
        due("14: reused", 0, () -> x.why(1, 0));
        x.write(0, 3);
        x.build(1, 0);
        due("14: the file, and the folder as well", 10, () -> x.why(1, 0));
        x.write(1, 5);
        x.build(1, 0);
        due("14: the folder", 11, () -> x.why(1, 0));
        x.rule(0, SUM, 0, 1, 1);
        x.build(1, 0);
        due("14: the target", 12, () -> x.why(1, 0));
        due("14: another rule", 2, () -> x.why(0, 0));
        x.rule(0, PICK, 0, 1, 1);
        x.input(0, FILE, 9);
        x.input(0, FILE, 1);
        x.build(1, 0);
        due("14: a target that fails", 12, () -> x.why(1, 0));
        x.build(1, 0);
        due("14: nothing is kept then", 1, () -> x.why(1, 0));
        x.write(9, 0);
        x.build(1, 0);
        x.write(1, 6);
        x.write(1, 5);
        x.rule(0, PICK, 0, 1, 1);
        x.input(0, FILE, 9);
        x.input(0, FILE, 0);
        x.build(1, 0);
        due("14: the turned one alone", 13, () -> x.why(1, 0));
        int found = (3 + 8 + 1 + 4) % 20;
        x.write(found, 70);
        x.build(1, 0);
        due("14: the found file came", 14, () -> x.why(1, 0));
        x.write(found, NONE);
        x.build(1, 0);
        due("14: the found file went", 14, () -> x.why(1, 0));
        x.rule(1, NONE, 0, 0, 1);
        x.build(1, 0);
        due("14: no rule is another rule", 2, () -> x.why(1, 0));
        give(x, 2, PICK, 0, 0, 1, FILE, 0, FILE, 1);
        x.build(2, 1);
        x.write(1, 7);
        x.build(2, 1);
        due("14: the place among those that were read", 10, () -> x.why(2, 1));
        sum(x, 3, FILE, 0, FILE, 1);
        x.build(3, 0);
        x.write(1, NONE);
        x.build(3, 0);
        due("14: a file that is not there", 11, () -> x.why(3, 0));
        int[][] rules = {{TENTH, 0, 0, 1}, {TENTH, 1, 0, 1}, {TENTH, 1, 1, 1}, {TENTH, 1, 1, 2}};
        give(x, 4, SUM, 0, 0, 1, FILE, 0);
        x.build(4, 0);
        for (int[] rule : rules) {
            give(x, 4, rule[0], rule[1], rule[2], rule[3], FILE, 0);
            x.build(4, 0);
            due("14: kind, number, salt, time", 2, () -> x.why(4, 0));
        }
        due("14: the time alone changes no action", FETCHED, () -> x.done(4, 0));
        x.input(4, FILE, 0);
        x.build(4, 0);
        due("14: one input more", 2, () -> x.why(4, 0));
        give(x, 4, TENTH, 1, 1, 2, FILE, 0, FILE, 0);
        x.build(4, 0);
        due("14: the same rule given anew", 0, () -> x.why(4, 0));
    }

    private static void counts() {
        Makewheel x = new Makewheel();
        sum(x, 0);
        give(x, 1, SUM, 0, 1, 1);
        sum(x, 2, TARGET, 0, TARGET, 1, TARGET, 3);
        x.build(0, 0);
        x.build(1, 0);
        x.fails(1, 1);
        x.rule(1, SUM, 0, 2, 1);
        x.build(2, 0);
        due("15: runs, those that fail, too", 2, () -> x.counts(0));
        due("15: fetches", 0, () -> x.counts(1));
        due("15: reused", 1, () -> x.counts(2));
        due("15: looked at, failing or not", 4, () -> x.counts(3));
        x.rule(1, SUM, 0, 1, 1);
        sum(x, 3);
        x.build(2, 0);
        due("15: the node itself ran", 1, () -> x.counts(0));
        due("15: two fetches", 2, () -> x.counts(1));
        for (int wrong : new int[] {-1, 4, Integer.MAX_VALUE, Integer.MIN_VALUE}) {
            Due.throwsIt("15: what " + wrong, ARGUMENT, () -> x.counts(wrong));
        }
        due("16: entries", 4, () -> x.entries());
        x.build(2, 0);
        due("16: none by reusing", 4, () -> x.entries());
        due("17: none away", 0, () -> x.away());
    }

    private static void leaks() {
        Makewheel x = new Makewheel();
        x.write(1, 1);
        give(x, 0, LEAK, 21, 0, 1, FILE, 1);
        give(x, 1, LEAK, 21, 0, 1, FOLDER, 0);
        give(x, 2, LEAK, 21, 0, 1, FOLDER, 1);
        give(x, 15, LEAK, 22, 0, 1, FILE, 1);
        x.build(0, 0);
        x.build(1, 0);
        due("18: none", 0, () -> x.leaks());
        x.build(2, 0);
        due("18: it is there, but not seen", 4, () -> x.leaks());
        x.build(15, 0);
        due("18: it is not there", 4 + (1 << 15), () -> x.leaks());
        x.rule(2, NONE, 0, 0, 1);
        x.empty();
        x.forget();
        x.build(0, 0);
        due("18: noted for good", 4 + (1 << 15), () -> x.leaks());

        Makewheel y = new Makewheel();
        give(y, 0, LEAK, 5, 0, 1, FOLDER, 2);
        give(y, 1, LEAK, 5, 0, 1, FOLDER, 2);
        give(y, 2, LEAK, 5, 0, 1, FOLDER, 3);
        give(y, 3, LEAK, 5, 0, 1, FILE, 3);
        y.fails(2, 3);
        y.build(0, 0);
        due("18: by a run", 1, () -> y.leaks());
        y.build(1, 0);
        due("18: fetched", FETCHED, () -> y.done(1, 0));
        due("18: by a fetch", 3, () -> y.leaks());
        y.build(2, 0);
        due("18: by runs that fail", 7, () -> y.leaks());
        y.build(3, 0);
        due("18: not without its inputs", 7, () -> y.leaks());
        sum(y, 4, TARGET, 0);
        y.build(4, 0);
        due("18: no other kind leaks", 7, () -> y.leaks());
    }

    private static Makewheel chart() {
        Makewheel x = new Makewheel();
        give(x, 0, PICK, 0, 0, 1, TARGET, 1, TURNED, 2, TARGET, 3);
        sum(x, 1, TURNED, 4);
        sum(x, 2, TARGET, 4, FOLDER, 1);
        sum(x, 3, TARGET, 5, FILE, 7);
        sum(x, 4, TARGET, 6);
        sum(x, 5, TARGET, 6, TURNED, 3);
        sum(x, 6, FILE, 0);
        sum(x, 15, TARGET, 15, TARGET, 0);
        return x;
    }

    private static int set(int... members) {
        int set = 0;
        for (int member : members) {
            set |= 1 << member;
        }
        return set;
    }

    private static void needs() {
        Makewheel x = chart();
        due("19: of 0, read or not", set(1, 2, 3, 4, 5, 6), () -> x.needs(0));
        due("19: of 6", 0, () -> x.needs(6));
        due("19: of 7, without a rule", 0, () -> x.needs(7));
        due("19: of 3, on a ring", set(3, 5, 6), () -> x.needs(3));
        due("19: of 15, on its own", set(0, 1, 2, 3, 4, 5, 6, 15), () -> x.needs(15));
        x.rule(3, NONE, 0, 0, 1);
        due("19: of 5, when 3 has no rule", set(3, 6), () -> x.needs(5));
        for (int wrong : WRONG) {
            Due.throwsIt("19: target " + wrong, INDEX, () -> x.needs(wrong));
            Due.throwsIt("21: target " + wrong, INDEX, () -> x.ring(wrong));
        }
    }

    private static void users() {
        Makewheel x = chart();
        due("20: of 6", set(0, 1, 2, 3, 4, 5, 15), () -> x.users(6));
        due("20: of 0", set(15), () -> x.users(0));
        due("20: of 5, on a ring", set(0, 3, 5, 15), () -> x.users(5));
        due("20: of 15", set(15), () -> x.users(15));
        due("20: of 9", 0, () -> x.users(9));
        due("20: of the file 0", set(0, 1, 2, 3, 4, 5, 6, 15), () -> x.users(100));
        due("20: of the file 7, and by its folder", set(0, 2, 3, 5, 15), () -> x.users(107));
        due("20: of the file 9, by its folder alone", set(0, 2, 15), () -> x.users(109));
        due("20: of the file 10", 0, () -> x.users(110));
        due("20: of the file 19", 0, () -> x.users(119));
        for (int wrong : new int[] {-1, 16, 17, 99, 120, 121, Integer.MAX_VALUE, Integer.MIN_VALUE}) {
            Due.throwsIt("20: " + wrong, INDEX, () -> x.users(wrong));
        }
    }

    private static void ring() {
        Makewheel x = chart();
        due("21: 3", 2, () -> x.ring(3));
        due("21: 5", 2, () -> x.ring(5));
        due("21: 15", 1, () -> x.ring(15));
        due("21: 0", NONE, () -> x.ring(0));
        due("21: 9", NONE, () -> x.ring(9));
        for (int target = 0; target < 16; target++) {
            sum(x, target, TARGET, (target + 1) % 16);
        }
        due("21: the longest", 16, () -> x.ring(7));
        x.input(15, TURNED, 4);
        due("21: the shorter one of two", 12, () -> x.ring(7));
        due("21: the longer one where it is the only one", 16, () -> x.ring(3));
        x.input(9, TARGET, 7);
        due("21: the shortest of three", 3, () -> x.ring(7));
    }

    private static void way() {
        Makewheel x = chart();
        int[] due = {0, 1, 4, 6, NONE, NONE};
        for (int place = 0; place < due.length; place++) {
            int each = place;
            due("22: by the lower one, place " + place, due[place], () -> x.way(0, 6, each));
        }
        due("22: far beyond", NONE, () -> x.way(0, 6, Integer.MAX_VALUE));
        due("22: no way back", NONE, () -> x.way(6, 0, 0));
        x.input(0, TARGET, 5);
        due("22: the shorter one, though higher", 5, () -> x.way(0, 6, 1));
        due("22: its end", 6, () -> x.way(0, 6, 2));
        due("22: no more", NONE, () -> x.way(0, 6, 3));
        sum(x, 8, TARGET, 10, TARGET, 9);
        sum(x, 9, TARGET, 12, TARGET, 14);
        sum(x, 10, TARGET, 11);
        sum(x, 11, TARGET, 13);
        sum(x, 12, TARGET, 13);
        sum(x, 14, TARGET, 13);
        due("22: where they differ first", 9, () -> x.way(8, 13, 1));
        due("22: and again", 12, () -> x.way(8, 13, 2));
        for (int wrong : WRONG) {
            Due.throwsIt("22: target " + wrong, INDEX, () -> x.way(wrong, 1, 0));
            Due.throwsIt("22: other " + wrong, INDEX, () -> x.way(1, wrong, 0));
            Due.throwsIt("22: both " + wrong, INDEX, () -> x.way(wrong, wrong, 0));
        }
        Due.throwsIt("22: place -1", INDEX, () -> x.way(0, 1, -1));
        Due.throwsIt("22: place before the same", INDEX, () -> x.way(1, 1, -1));
        Due.throwsIt("22: the same", ARGUMENT, () -> x.way(1, 1, 0));
        Due.throwsIt("22: the same, far beyond", ARGUMENT, () -> x.way(15, 15, 100));
    }

    private static void time() {
        Makewheel x = new Makewheel();
        give(x, 0, SUM, 0, 0, 7);
        due("23: alone", 7, () -> x.time(0, 0, 1));
        give(x, 1, SUM, 0, 0, 3, TARGET, 0);
        give(x, 2, SUM, 0, 0, 4, TARGET, 0);
        give(x, 3, SUM, 0, 0, 5, TARGET, 1, TARGET, 2, TARGET, 1);
        due("23: one machine", 19, () -> x.time(3, 0, 1));
        due("23: two", 16, () -> x.time(3, 0, 2));
        due("23: three", 16, () -> x.time(3, 0, 3));
        give(x, 4, SUM, 0, 0, 1, TARGET, 3, TURNED, 3);
        due("23: both configurations, one machine", 39, () -> x.time(4, 0, 1));
        due("23: both configurations, two", 20, () -> x.time(4, 1, 2));
        due("23: no run is done by it", 0, () -> x.counts(3));
        give(x, 5, PICK, 0, 0, 2, TARGET, 0, TARGET, 4);
        due("23: what is read in 0", 9, () -> x.time(5, 0, 3));
        due("23: what is read in 1", 22, () -> x.time(5, 1, 2));
        x.build(4, 0);
        x.fails(0, 20);
        due("23: from nothing, without failing actions", 19, () -> x.time(3, 0, 1));
        x.input(3, FILE, 0);
        due("23: it would fail", NONE, () -> x.time(3, 0, 1));
        due("23: so would this", NONE, () -> x.time(4, 0, 2));

        // The longest way up begins first, though a lower target could begin as well.
        Makewheel y = new Makewheel();
        give(y, 0, SUM, 0, 0, 5);
        give(y, 1, SUM, 0, 0, 5);
        give(y, 2, SUM, 0, 0, 5);
        give(y, 3, SUM, 0, 0, 10, TARGET, 2);
        give(y, 4, SUM, 0, 0, 1, TARGET, 0, TARGET, 1, TARGET, 3);
        due("23: by critical paths", 16, () -> y.time(4, 0, 2));

        // The ways up from 0, 1 and 2 are 8 each: 0 and 1 begin, then 2 at 2, 3 at 5, 4 at 8.
        Makewheel z = new Makewheel();
        give(z, 0, SUM, 0, 0, 2);
        give(z, 1, SUM, 0, 0, 5);
        give(z, 2, SUM, 0, 0, 5);
        give(z, 3, SUM, 0, 0, 3, TARGET, 0);
        give(z, 4, SUM, 0, 0, 3, TARGET, 3, TARGET, 2, TARGET, 1);
        due("23: of several the lowest", 11, () -> z.time(4, 0, 2));
        due("23: with three all begin", 8, () -> z.time(4, 0, 3));
        // The same with 0 turned: 2 times the target and the configuration is 1 then, yet the lowest.
        give(z, 3, SUM, 0, 0, 3, TURNED, 0);
        due("23: the lowest by target, then configuration", 11, () -> z.time(4, 0, 2));
        // And with the short one as the highest: the long ones begin, and it waits.
        give(z, 5, SUM, 0, 0, 2);
        give(z, 3, SUM, 0, 0, 3, TARGET, 5);
        due("23: not the shortest", 13, () -> z.time(4, 0, 2));
        give(z, 6, SUM, 0, 0, 20);
        give(z, 7, SUM, 0, 0, 20, TARGET, 6, TURNED, 6);
        due("23: both nodes of a target at once", 40, () -> z.time(7, 0, 2));

        for (int wrong : WRONG) {
            Due.throwsIt("23: target " + wrong, INDEX, () -> z.time(wrong, 0, 1));
            Due.throwsIt("23: configuration " + wrong, INDEX, () -> z.time(0, wrong, 1));
            Due.throwsIt("23: target before machines " + wrong, INDEX, () -> z.time(wrong, 0, 4));
            Due.throwsIt("23: machines " + wrong, ARGUMENT, () -> z.time(0, 0, wrong));
        }
        Due.throwsIt("23: no machine", ARGUMENT, () -> z.time(0, 0, 0));
        Due.throwsIt("23: machines, though it would fail", ARGUMENT, () -> z.time(15, 0, 4));
    }
}
