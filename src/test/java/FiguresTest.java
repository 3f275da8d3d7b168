import java.util.NoSuchElementException;

/** Promises 32 to 35: the tightest point, shares and means, and the check. */
public final class FiguresTest {
    public static void main(String[] args) {
        tightest();
        tightestRefuses();
        hungShare();
        meanLoad();
        isSound();
        Check.finish("FiguresTest");
    }

    private static void tightest() {
        Stagecargo desk = Shows.withPoints();
        desk.addPoint(60, 500);
        desk.addPiece(800, 10, 1, 0);
        desk.addPiece(300, 10, 1, 0);
        desk.addPiece(300, 10, 1, 0);
        desk.fix(0, 0, 1, 0, 0);
        desk.fix(1, 0, 1, 20, 0);
        desk.fix(2, 1, 3, 60, 0);
        desk.addTown(100, 480, 5, 1440);
        desk.addTown(10, 480, 5, 1440);
        desk.come(0);
        Check.due("the lowest of two with the least limit", 2, desk.tightest());
        desk.hang(0);
        Check.due("the first one, with 200 left", 0, desk.tightest());
        desk.hang(2);
        Check.due("200 left on both: the lower one", 0, desk.tightest());
        desk.takeDown();
        desk.takeDown();
        Shows.hangAll(desk, 1);
        Check.due("500 left on three: the lowest", 1, desk.tightest());
        desk.hang(2);
        Check.due("200 left on the last", 3, desk.tightest());
        desk.come(1);
        Check.due("by what the town allows", 2, desk.tightest());
    }

    private static void tightestRefuses() {
        Stagecargo desk = new Stagecargo();
        Check.thrown("no town before no point", IllegalStateException.class, desk::tightest);
        desk.addTown(100, 30, 5, 60);
        Check.thrown("a town, but not there", IllegalStateException.class, desk::tightest);
        desk.come(0);
        Check.thrown("no point", NoSuchElementException.class, desk::tightest);
        desk.addPoint(0, 100);
        Check.due("the only point", 0, desk.tightest());
        Check.thrown("points, but no town", IllegalStateException.class, Shows.withPoints()::tightest);
    }

    private static void hungShare() {
        Stagecargo none = Shows.withPoints();
        Check.thrown("no pieces", ArithmeticException.class, none::hungShare);
        Stagecargo desk = Shows.lightIn(480, 5, 1440, 10, 10, 10);
        Check.dueDouble("none of three", 0.0f, desk.hungShare());
        desk.hang(1);
        Check.dueDouble("one of three", 1.0f / 3.0f, desk.hungShare());
        desk.hang(0);
        Check.dueDouble("two of three", 2.0f / 3.0f, desk.hungShare());
        desk.hang(2);
        Check.dueDouble("all", 1.0f, desk.hungShare());
        Check.dueDouble("in no town", 0.0f, Shows.light(10).hungShare());
    }

    private static void meanLoad() {
        Stagecargo none = new Stagecargo();
        none.addPiece(10, 5, 1, 0);
        Check.thrown("no points", ArithmeticException.class, none::meanLoad);
        Check.dueDouble("in no town", 0.0, Shows.withPoints().meanLoad());
        Stagecargo desk = Shows.withPoints();
        desk.addPiece(100, 10, 1, 0);
        desk.addPiece(55, 10, 1, 0);
        desk.fix(0, 0, 1, 5, 0);
        desk.fix(1, 1, 2, 30, 0);
        desk.addTown(100, 480, 5, 1440);
        desk.come(0);
        desk.hang(0);
        Check.dueDouble("100 on three points", 100.0 / 3.0, desk.meanLoad());
        desk.hang(1);
        Check.dueDouble("155 on three points", 155.0 / 3.0, desk.meanLoad());
        desk.takeDown();
        desk.takeDown();
        Check.dueDouble("nothing again", 0.0, desk.meanLoad());
    }

    private static void isSound() {
        Check.isTrue("in no town", Shows.light(10, 20).isSound());
        Stagecargo desk = Shows.lightIn(100, 20, 400, 60, 50, 40, 70, 30);
        desk.need(1, 0);
        desk.need(4, 1);
        desk.need(4, 2);
        desk.setRates(0, 3, 77, 5);
        desk.setArrival(2, 90);
        Check.isTrue("nothing hung", desk.isSound());
        int[] order = {2, 0, 1, 4};
        for (int piece : order) {
            desk.hang(piece);
            Check.isTrue("hung behind its needs: " + piece, desk.isSound());
        }
        desk.setRates(0, 9, 200, 1);
        Check.isTrue("other rates", desk.isSound());
        while (desk.hung() > 0) {
            desk.takeDown();
            Check.isTrue("taken down to " + desk.hung(), desk.isSound());
        }
        Stagecargo full = Shows.withPoints();
        full.addPiece(1600, 60, 1, 0);
        full.fix(0, 0, 1, 10, 0);
        full.addTown(100, 60, 5, 60);
        full.come(0);
        full.hang(0);
        Check.isTrue("a point bears all that it may", full.isSound());
    }
}
