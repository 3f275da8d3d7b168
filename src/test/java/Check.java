/** Counts what is not as due, and ends a test with exit code 1 if anything was not. */
final class Check {
    /** A call that answers nothing that matters here. */
    interface Call {
        void run();
    }

    private static int checks = 0;
    private static int wrong = 0;

    private Check() {
    }

    static void due(String what, long due, long got) {
        verdict(what, due == got, due + "", got + "");
    }

    static void dueChar(String what, char due, char got) {
        verdict(what, due == got, due + "", got + "");
    }

    static void dueDouble(String what, double due, double got) {
        verdict(what, due == got, due + "", got + "");
    }

    static void dueText(String what, String due, String got) {
        verdict(what, due.equals(got), due, got);
    }

    static void isTrue(String what, boolean got) {
        verdict(what, got, "true", got + "");
    }

    /** The call throws an exception of exactly this class. */
    static void thrown(String what, Class<? extends RuntimeException> due, Call call) {
        dueText(what, due.getSimpleName(), nameOfThrown(call));
    }

    /** The call throws an exception of exactly this class and nothing that can be asked is changed. */
    static void refused(Stagecargo desk, String what, Class<? extends RuntimeException> due, Call call) {
        String before = Snapshot.of(desk);
        thrown(what, due, call);
        dueText(what + " changes nothing", before, Snapshot.of(desk));
    }

    static String nameOfThrown(Call call) {
        try {
            call.run();
            return "nothing";
        } catch (RuntimeException e) {
            return e.getClass().getSimpleName();
        }
    }

    static void finish(String test) {
        System.out.println(test + ": " + checks + " checks, " + wrong + " not as due");
        if (checks == 0 || wrong != 0) {
            System.exit(1);
        }
    }

    private static void verdict(String what, boolean right, String due, String got) {
        checks++;
        if (!right) {
            wrong++;
            System.out.println(what + " answered " + got + ", due is " + due);
        }
    }
}
