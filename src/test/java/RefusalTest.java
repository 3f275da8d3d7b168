import java.util.NoSuchElementException;

/** Every exception that the document lists, each on a desk of its own: a call that throws changes nothing. */
public final class RefusalTest {
    private static final Class<? extends RuntimeException> ARGUMENT = IllegalArgumentException.class;
    private static final Class<? extends RuntimeException> STATE = IllegalStateException.class;
    private static final Class<? extends RuntimeException> INDEX = IndexOutOfBoundsException.class;
    private static final Class<? extends RuntimeException> ELEMENT = NoSuchElementException.class;
    private static final Class<? extends RuntimeException> RING = UnsupportedOperationException.class;
    private static final Class<? extends RuntimeException> NUMBER = ArithmeticException.class;

    private interface Refused {
        void by(Stagecargo desk);
    }

    private interface Made {
        Stagecargo desk();
    }

    public static void main(String[] args) {
        onBusyDesk();
        onFullDesk();
        onEmptyDesk();
        Check.finish("RefusalTest");
    }

    /** Points 0 and 1, pieces 0 to 2, one town; piece 0 hangs and piece 1 needs it. */
    private static void onBusyDesk() {
        Made busy = Shows::oneHung;
        refused(busy, "addPoint", ARGUMENT, desk -> desk.addPoint(61, 100));
        refused(busy, "addPiece", ARGUMENT, desk -> desk.addPiece(10, 5, 1, 3));
        refused(busy, "addTown", ARGUMENT, desk -> desk.addTown(10, 30, 5, 59));
        refused(busy, "fix no piece", ELEMENT, desk -> desk.fix(3, 0, 1, 5, 0));
        refused(busy, "fix no point", INDEX, desk -> desk.fix(1, 0, 2, 5, 0));
        refused(busy, "fix a wrong angle", ARGUMENT, desk -> desk.fix(1, 0, 1, 0, 61));
        refused(busy, "fix a hung piece", STATE, desk -> desk.fix(0, 0, 1, 0, 60));
        refused(busy, "need no piece", ELEMENT, desk -> desk.need(2, 3));
        refused(busy, "need itself", ARGUMENT, desk -> desk.need(2, 2));
        refused(busy, "need in a ring", RING, desk -> desk.need(0, 1));
        refused(busy, "need when hung", STATE, desk -> desk.need(0, 2));
        refused(busy, "setArrival no truck", INDEX, desk -> desk.setArrival(3, 100));
        refused(busy, "setArrival a wrong minute", ARGUMENT, desk -> desk.setArrival(1, 1441));
        refused(busy, "setArrival of a hung piece", STATE, desk -> desk.setArrival(0, 100));
        refused(busy, "setRates no town", ELEMENT, desk -> desk.setRates(1, 9, 9, 9));
        refused(busy, "setRates a wrong rate", ARGUMENT, desk -> desk.setRates(0, 9, 9, 100));
        refused(busy, "come", ELEMENT, desk -> desk.come(1));
        refused(busy, "loadOn no piece", ELEMENT, desk -> desk.loadOn(3, 0));
        refused(busy, "loadOn no point", INDEX, desk -> desk.loadOn(0, 2));
        refused(busy, "mayBear", INDEX, desk -> desk.mayBear(2));
        refused(busy, "bears", INDEX, desk -> desk.bears(2));
        refused(busy, "reason", ELEMENT, desk -> desk.reason(3));
        refused(busy, "hang no piece", ELEMENT, desk -> desk.hang(3));
        refused(busy, "hang a hung piece", STATE, desk -> desk.hang(0));
        refused(busy, "hungAt", INDEX, desk -> desk.hungAt(1));
        refused(busy, "beginOf no piece", ELEMENT, desk -> desk.beginOf(3));
        refused(busy, "beginOf what is not hung", ELEMENT, desk -> desk.beginOf(1));
        refused(busy, "bestAt", INDEX, desk -> desk.bestAt(3));
    }

    private static void onFullDesk() {
        Made full = RefusalTest::fullDesk;
        refused(full, "a ninth point", STATE, desk -> desk.addPoint(0, 100));
        refused(full, "a seventh piece", STATE, desk -> desk.addPiece(10, 5, 1, 0));
        refused(full, "a fifth town", STATE, desk -> desk.addTown(10, 30, 5, 60));
    }

    private static void onEmptyDesk() {
        Made empty = Stagecargo::new;
        refused(empty, "town", ELEMENT, Stagecargo::town);
        refused(empty, "takeDown", STATE, Stagecargo::takeDown);
        refused(empty, "tightest in no town", STATE, Stagecargo::tightest);
        refused(empty, "hungShare", NUMBER, Stagecargo::hungShare);
        refused(empty, "meanLoad", NUMBER, Stagecargo::meanLoad);
        refused(Shows::withPoints, "mayBear in no town", STATE, desk -> desk.mayBear(0));
        refused(RefusalTest::inTownWithoutPoints, "tightest of no point", ELEMENT, Stagecargo::tightest);
    }

    private static Stagecargo fullDesk() {
        Stagecargo desk = Shows.lightIn(100, 20, 600, 40, 50, 60, 10, 20, 30);
        for (int i = 2; i < 8; i++) {
            desk.addPoint(i, 500);
        }
        for (int i = 1; i < 4; i++) {
            desk.addTown(50, 100, 10, 500);
        }
        Shows.hangAll(desk, 3, 1);
        return desk;
    }

    private static Stagecargo inTownWithoutPoints() {
        Stagecargo desk = new Stagecargo();
        desk.addTown(100, 30, 5, 60);
        desk.come(0);
        return desk;
    }

    private static void refused(Made made, String what, Class<? extends RuntimeException> due, Refused call) {
        Stagecargo desk = made.desk();
        Check.refused(desk, what, due, () -> call.by(desk));
    }
}
