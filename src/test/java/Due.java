/** Counts the answers of one test program, prints those that are not as due, and ends it. */
final class Due {
    interface Call {
        Object answer();
    }

    private static int passed = 0;
    private static int failed = 0;

    private Due() {
    }

    static void is(String what, Object want, Call call) {
        Object got = answerOf(call);
        if (want.equals(got)) {
            passed++;
        } else {
            failed++;
            System.out.println(what + " answered " + got + ", due is " + want);
        }
    }

    /** The exact class counts: the machine's own exceptions are subclasses of those that are due. */
    static void throwsIt(String what, Class<? extends RuntimeException> want, Call call) {
        is(what, "throws." + want.getSimpleName(), call);
    }

    static Object answerOf(Call call) {
        try {
            return call.answer();
        } catch (RuntimeException thrown) {
            return "throws." + thrown.getClass().getSimpleName();
        }
    }

    static void end(String name) {
        System.out.println(name + ": " + passed + " answers as due, " + failed + " not");
        if (failed > 0 || passed == 0) {
            System.exit(1);
        }
    }
}
