/** What the tests of the promises share: the names of the document, and rules given in one line. */
abstract class Given {
    static final Class<IndexOutOfBoundsException> INDEX = IndexOutOfBoundsException.class;
    static final Class<IllegalArgumentException> ARGUMENT = IllegalArgumentException.class;
    static final Class<IllegalStateException> STATE = IllegalStateException.class;
    static final int FILE = Makewheel.FILE, FOLDER = Makewheel.FOLDER;
    static final int TARGET = Makewheel.TARGET, TURNED = Makewheel.TURNED;
    static final int SUM = Makewheel.SUM, TENTH = Makewheel.TENTH, PICK = Makewheel.PICK;
    static final int FOLLOW = Makewheel.FOLLOW, LEAK = Makewheel.LEAK, NONE = Makewheel.NONE;
    static final int NO_RULE = Makewheel.NO_RULE, MISSING = Makewheel.MISSING;
    static final int RING = Makewheel.RING, BROKEN = Makewheel.BROKEN;
    static final int UNSEEN = Makewheel.UNSEEN, REUSED = Makewheel.REUSED;
    static final int FETCHED = Makewheel.FETCHED, RUN = Makewheel.RUN, FAILED = Makewheel.FAILED;

    /** Gives a target a rule with inputs, told as what and which by turns. */
    static void give(Makewheel x, int target, int kind, int number, int salt, int time, int... inputs) {
        x.rule(target, kind, number, salt, time);
        for (int i = 0; i + 1 < inputs.length; i += 2) {
            x.input(target, inputs[i], inputs[i + 1]);
        }
    }

    static void sum(Makewheel x, int target, int... inputs) {
        give(x, target, SUM, 0, 0, 1, inputs);
    }

    static void due(String what, Object want, Due.Call call) {
        Due.is(what, want, call);
    }
}
