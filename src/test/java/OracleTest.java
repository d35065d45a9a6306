/** Many runs of calls, always the same ones, on Makewheel and on the naive Oracle. */
public final class OracleTest {
    private static final int RUNS = 4000;
    private static final int CALLS = 512;
    private static final int PLANS = 3000;
    private static final int MOST_PRINTED = 20;

    private final Makewheel made = new Makewheel();
    private final Oracle due = new Oracle();
    private final int run;
    private final int targets;
    private final int wild;
    // One input of so many may lead back, and one write of so many takes a file away.
    private final int backwards;
    private final int taken;
    // With few contents and few sizes much comes back as it was before, and is fetched.
    private final int contents;
    // In a still run rules stay and little goes wrong, so that the cache grows beyond its bound.
    private final boolean isStill;
    private long seed;
    private int calls = 0;
    private boolean isRight = true;

    private static int printed = 0;

    private OracleTest(int run) {
        this.run = run;
        seed = run * 7919L + 17;
        targets = 2 + next(run % 3 == 0 ? 15 : 6);
        wild = run % 10 == 9 ? 4 : 300;
        backwards = run % 4 == 0 ? 6 : run % 4 == 1 ? 60 : 1000000;
        taken = run % 7 == 0 ? 3 : 40;
        contents = run % 3 == 1 ? 2 : 40;
        isStill = run % 5 == 0;
    }

    private int next(int many) {
        seed = seed * 6364136223846793005L + 1442695040888963407L;
        return (int) ((seed >>> 33) % many);
    }

    public static void main(String[] arguments) {
        for (int run = 0; run < RUNS; run++) {
            OracleTest test = new OracleTest(run);
            Due.is("run " + run + ": whether all answers agree", true, () -> test.agrees());
        }
        for (int run = 0; run < PLANS; run++) {
            OracleTest test = new OracleTest(RUNS + run);
            Due.is("plan " + run + ": whether all times agree", true, () -> test.agreesOnTimes());
        }
        Due.end("OracleTest");
    }

    private boolean agrees() {
        if (run % 20 != 19) {
            prepare();
        }
        while (calls < CALLS && isRight) {
            act();
        }
        return isRight;
    }

    /** Wide graphs where nothing fails, with few times, so that many ways up are as long as others. */
    private boolean agreesOnTimes() {
        int mostTime = 1 + next(6);
        int leaves = 1 + next(8);
        for (int target = 0; target < 16; target++) {
            int each = target;
            int time = 1 + next(mostTime);
            int kind = next(8) == 0 ? Makewheel.PICK : Makewheel.SUM;
            same("rule(" + target + ", " + kind + ", 0, 0, " + time + ")",
                () -> made.rule(each, kind, 0, 0, time), () -> due.rule(each, kind, 0, 0, time));
            for (int place = 0; place < 4 && target >= leaves; place++) {
                addInput(target, next(5) == 0 ? Makewheel.TURNED : Makewheel.TARGET,
                    next(3) == 0 ? next(target) : Math.max(0, target - 1 - next(6)));
            }
        }
        for (int node = 0; node < 32; node++) {
            for (int machines = 1; machines <= 3; machines++) {
                int each = node;
                int many = machines;
                same("time(" + node / 2 + ", " + node % 2 + ", " + machines + ")",
                    () -> made.time(each / 2, each % 2, many), () -> due.time(each / 2, each % 2, many));
            }
        }
        return isRight;
    }

    private void same(String what, Due.Call got, Due.Call want) {
        calls++;
        Object answer = Due.answerOf(got);
        Object asked = Due.answerOf(want);
        if (!asked.equals(answer) && isRight) {
            isRight = false;
            if (printed < MOST_PRINTED) {
                printed++;
                System.out.println("run " + run + ", call " + calls + ": " + what
                    + " answered " + answer + ", due is " + asked);
            }
        }
    }

    private int number(int low, int high) {
        if (next(wild) > 0) {
            return low + next(high - low + 1);
        }
        int[] beside = {low - 1, high + 1, -2, 1000, Integer.MAX_VALUE, Integer.MIN_VALUE};
        return beside[next(beside.length)];
    }

    private boolean isOrdinary() {
        return next(contents == 2 ? 40 : 4) > 0;
    }

    private int lastFile() {
        return contents == 2 ? 5 : 19;
    }

    private int target() {
        return next(wild) > 0 ? next(targets) : number(0, 15);
    }

    private void prepare() {
        for (int file = 0; file < 20; file++) {
            if (next(taken) > 0) {
                write(file, next(contents));
            }
        }
        for (int target = 0; target < targets; target++) {
            makeRule(target);
        }
    }

    private void write(int file, int content) {
        same("write(" + file + ", " + content + ")",
            () -> made.write(file, content), () -> due.write(file, content));
    }

    private void makeRule(int target) {
        int kind = next(wild) > 0 ? next(5) : number(-1, 4);
        int salt = next(4) > 0 ? next(2) : number(0, 999);
        int size = isOrdinary() ? next(contents) : number(0, 999);
        int time = next(3) > 0 ? 1 + next(3) : number(1, 20);
        same("rule(" + target + ", " + kind + ", " + size + ", " + salt + ", " + time + ")",
            () -> made.rule(target, kind, size, salt, time), () -> due.rule(target, kind, size, salt, time));
        int inputs = next(4) > 0 ? 1 + next(3) : next(6);
        for (int place = 0; place < inputs; place++) {
            addInput(target);
        }
    }

    private void addInput(int target) {
        int what = next(wild) == 0 ? number(0, 3) : next(5) > 0 ? 2 + next(5) / 4 : next(2);
        int which;
        if (what >= 2 && target == 0 && next(backwards) > 0) {
            what = next(2);
        }
        if (what == 0 || what == 1) {
            which = number(0, what == 0 ? lastFile() : 3);
        } else if (target > 0 && target < 16 && next(backwards) > 0) {
            which = next(wild) > 0 ? next(target) : number(0, 15);
        } else {
            which = target();
        }
        addInput(target, what, which);
    }

    private void addInput(int target, int what, int which) {
        same("input(" + target + ", " + what + ", " + which + ")",
            () -> made.input(target, what, which), () -> due.input(target, what, which));
    }

    private void act() {
        int what = next(100);
        if (what < 35) {
            build();
        } else if (what < 62) {
            write(number(0, lastFile()), next(taken) == 0 ? -1 : isOrdinary() ? next(contents) : number(0, 999));
        } else if (what < (isStill ? 62 : 65)) {
            makeRule(target());
        } else if (what < (isStill ? 62 : 67)) {
            addInput(target());
        } else if (what < (isStill ? 70 : 80)) {
            trouble();
        } else if (what < 90) {
            tell();
        } else {
            ask();
        }
    }

    private void build() {
        int target = next(2) == 0 ? targets - 1 : target();
        int configuration = number(0, 1);
        same("build(" + target + ", " + configuration + ")",
            () -> made.build(target, configuration), () -> due.build(target, configuration));
        for (int node = 0; node < 32 && next(4) == 0; node++) {
            int each = node;
            same("done after build", () -> made.done(each / 2, each % 2), () -> due.done(each / 2, each % 2));
            same("why after build", () -> made.why(each / 2, each % 2), () -> due.why(each / 2, each % 2));
        }
        for (int what = 0; what < 4 && next(3) > 0; what++) {
            int each = what;
            same("counts(" + what + ")", () -> made.counts(each), () -> due.counts(each));
        }
        if (next(8) == 0) {
            for (int node = 0; node < 2 * targets; node++) {
                int each = node;
                same("done of all", () -> made.done(each / 2, each % 2), () -> due.done(each / 2, each % 2));
                same("why of all", () -> made.why(each / 2, each % 2), () -> due.why(each / 2, each % 2));
            }
        }
    }

    private void trouble() {
        int what = next(20);
        if (what < 3) {
            int target = target();
            int times = next(9) > 0 ? next(5) : number(0, 20);
            same("fails(" + target + ", " + times + ")",
                () -> made.fails(target, times), () -> due.fails(target, times));
        } else if (what < 11) {
            int machine = number(0, 2);
            boolean isPoisoned = next(2) == 0;
            same("poison(" + machine + ", " + isPoisoned + ")",
                () -> made.poison(machine, isPoisoned), () -> due.poison(machine, isPoisoned));
        } else if (what < 15) {
            boolean areOn = next(3) > 0;
            same("checks(" + areOn + ")", () -> made.checks(areOn), () -> due.checks(areOn));
        } else if (what < 17) {
            int many = next(3) > 0 ? next(4) : number(0, 20);
            same("vanish(" + many + ")", () -> made.vanish(many), () -> due.vanish(many));
        } else if (what < 18 && next(isStill ? 40 : 4) == 0) {
            same("empty()", () -> made.empty(), () -> due.empty());
        } else if (next(isStill ? 10 : 3) == 0) {
            same("forget()", () -> made.forget(), () -> due.forget());
        }
    }

    private void tell() {
        int target = target();
        int configuration = number(0, 1);
        int what = number(0, 3);
        switch (next(8)) {
            case 0: same("done(" + target + ", " + configuration + ")",
                () -> made.done(target, configuration), () -> due.done(target, configuration)); break;
            case 1: same("why(" + target + ", " + configuration + ")",
                () -> made.why(target, configuration), () -> due.why(target, configuration)); break;
            case 2: same("plain(" + target + ", " + configuration + ")",
                () -> made.plain(target, configuration), () -> due.plain(target, configuration)); break;
            case 3: same("counts(" + what + ")", () -> made.counts(what), () -> due.counts(what)); break;
            case 4: same("entries()", () -> made.entries(), () -> due.entries()); break;
            case 5: same("away()", () -> made.away(), () -> due.away()); break;
            case 6: same("leaks()", () -> made.leaks(), () -> due.leaks()); break;
            default: same("time " + target + " " + configuration + " " + what,
                () -> made.time(target, configuration, what), () -> due.time(target, configuration, what));
        }
    }

    private void ask() {
        int target = target();
        int other = target();
        int place = next(wild) > 0 ? next(5) : number(0, 16);
        int user = next(2) == 0 ? target : number(100, 119);
        switch (next(4)) {
            case 0: same("needs(" + target + ")", () -> made.needs(target), () -> due.needs(target)); break;
            case 1: same("users(" + user + ")", () -> made.users(user), () -> due.users(user)); break;
            case 2: same("ring(" + target + ")", () -> made.ring(target), () -> due.ring(target)); break;
            default: same("way(" + target + ", " + other + ", " + place + ")",
                () -> made.way(target, other, place), () -> due.way(target, other, place));
        }
    }
}
