/** Counts what is not as due, and ends a test with exit code 1 if anything was not. */
final class Check {
    /** A call that answers nothing that matters here. */
    interface Call {
        void run();
    }

    /** A call that is made with a number that may be out of range. */
    interface Taker {
        void take(int value);
    }

    /** How a desk is made; each time the same. */
    interface Made {
        Stagecargo desk();
    }

    /** A call that a desk refuses. */
    interface Refused {
        void by(Stagecargo desk);
    }

    private static String about = "";
    private static int checks = 0;
    private static int wrong = 0;

    private Check() {
    }

    /**
     * What follows is about this part of a promise: "does" for what the call does, the name of a
     * parameter, "Returns", or "Throws" and the exception. SentencesTest looks for all parts.
     */
    static void promise(int number, String part) {
        about = "Promise " + number + ", " + part + ": ";
    }

    /** What follows is about the sentence of "Terms" that has these words. SentencesTest looks for all of them. */
    static void terms(String words) {
        about = "Terms, \"" + words + "\": ";
    }

    /** The same for a sentence of "What it is". */
    static void whatItIs(String words) {
        about = "What it is, \"" + words + "\": ";
    }

    static void due(String what, long due, long got) {
        verdict(what, due == got, due + "", got + "");
    }

    static void dueChar(String what, char due, char got) {
        verdict(what, due == got, due + "", got + "");
    }

    static void dueDouble(String what, double due, double got) {
        verdict(what, due == got, due + "", got + "");
    }

    static void dueText(String what, String due, String got) {
        verdict(what, due.equals(got), due, got);
    }

    static void isTrue(String what, boolean got) {
        verdict(what, got, "true", got + "");
    }

    /** The call throws an exception of exactly this class. */
    static void thrown(String what, Class<? extends RuntimeException> due, Call call) {
        dueText(what, due.getSimpleName(), nameOfThrown(call));
    }

    /** The same, for the number next to the last one on either side and for those that are farthest away. */
    static void thrownBeyond(String what, int least, int greatest, Class<? extends RuntimeException> due, Taker taker) {
        int[] beyond = {Integer.MIN_VALUE, least - 1, greatest + 1, Integer.MAX_VALUE};
        for (int value : beyond) {
            thrown(what + " " + value, due, () -> taker.take(value));
        }
    }

    /** The numbers from least to greatest are taken, and none beyond either end. */
    static void range(String what, int least, int greatest, Class<? extends RuntimeException> due, Taker taker) {
        int[] within = {least, least + 1, greatest - 1, greatest};
        for (int value : within) {
            dueText(what + " " + value, "nothing", nameOfThrown(() -> taker.take(value)));
        }
        thrownBeyond(what, least, greatest, due, taker);
    }

    /** The call throws an exception of exactly this class, and the desk is as one that was never asked. */
    static void refused(String what, Made made, Class<? extends RuntimeException> due, Refused call) {
        Stagecargo touched = made.desk();
        thrown(what, due, () -> call.by(touched));
        dueText(what + " changes nothing", Probe.of(made.desk()), Probe.of(touched));
    }

    /** All that the desk says of its best completion. */
    static void best(String what, Stagecargo desk, int worth, int end, int cost, int... pieces) {
        due(what + ": bestWorth", worth, desk.bestWorth());
        due(what + ": bestByAll", worth, desk.bestByAll());
        due(what + ": bestEnd", end, desk.bestEnd());
        due(what + ": bestCost", cost, desk.bestCost());
        due(what + ": bestSize", pieces.length, desk.bestSize());
        for (int i = 0; i < pieces.length; i++) {
            due(what + ": bestAt(" + i + ")", pieces[i], desk.bestAt(i));
        }
        thrown(what + ": bestAt has no more", IndexOutOfBoundsException.class, () -> desk.bestAt(pieces.length));
    }

    static String nameOfThrown(Call call) {
        try {
            call.run();
            return "nothing";
        } catch (RuntimeException e) {
            return e.getClass().getSimpleName();
        }
    }

    static void finish(String test) {
        System.out.println(test + ": " + checks + " checks, " + wrong + " not as due");
        if (checks == 0 || wrong != 0) {
            System.exit(1);
        }
    }

    private static void verdict(String what, boolean right, String due, String got) {
        checks++;
        if (!right) {
            wrong++;
            System.out.println(about + what + " answered " + got + ", due is " + due);
        }
    }
}
