/** Promises 32 to 35, part by part: the tightest point, shares and means, and the check. */
public final class FiguresTest {
    public static void main(String[] args) {
        tightestDoes();
        tightestOfSeveral();
        tightestReturns();
        hungShare();
        meanLoad();
        isSoundDoes();
        isSoundAtTheLimit();
        isSoundReturns();
        Check.finish("FiguresTest");
    }

    // ---- Promise 32

    private static void tightestDoes() {
        Check.promise(32, "does");
        Stagecargo desk = Shows.withPoints();
        desk.addPoint(60, 500);
        desk.addPiece(800, 10, 1, 0);
        desk.addPiece(300, 10, 1, 0);
        desk.addPiece(300, 10, 1, 0);
        desk.fix(0, 0, 1, 0, 0);
        desk.fix(1, 0, 1, 20, 0);
        desk.fix(2, 1, 3, 60, 0);
        desk.addTown(100, 480, 5, 1440);
        desk.addTown(10, 480, 5, 1440);
        desk.come(0);
        Check.due("the lower of two with 500", 2, desk.tightest());
        desk.hang(0);
        Check.due("the one with 200 left of 1000", 0, desk.tightest());
        desk.hang(2);
        Check.due("200 left on 0 and on 3: the lower one", 0, desk.tightest());
        desk.takeDown();
        desk.takeDown();
        desk.hang(1);
        Check.due("500 left on 1, 2 and 3: the lowest", 1, desk.tightest());
        desk.hang(2);
        Check.due("200 left on the last", 3, desk.tightest());
        desk.come(1);
        Check.due("by what the town allows", 2, desk.tightest());
    }

    private static void tightestOfSeveral() {
        Check.promise(32, "does");
        Stagecargo desk = new Stagecargo();
        for (int i = 0; i < 8; i++) {
            desk.addPoint(i, 100 + i);
        }
        desk.addTown(10, 30, 5, 60);
        desk.come(0);
        Check.due("all may bear 10", 0, desk.tightest());
        Stagecargo down = new Stagecargo();
        for (int i = 0; i < 8; i++) {
            down.addPoint(i, 107 - i);
        }
        down.addTown(100, 30, 5, 60);
        down.come(0);
        Check.due("each one less than the one before", 7, down.tightest());
        down.addTown(99, 30, 5, 60);
        down.come(1);
        Check.due("99 of 100 of 101 and of 100 are both 99", 6, down.tightest());
    }

    private static void tightestReturns() {
        Check.promise(32, "Returns");
        Check.due("the last one of eight", 7, Shows.fullAndHung().tightest());
        Stagecargo one = new Stagecargo();
        one.addPoint(0, 100);
        one.addTown(100, 30, 5, 60);
        one.come(0);
        Check.due("the only one", 0, one.tightest());
        Stagecargo desk = Shows.withPoints();
        desk.addPiece(1000, 5, 1, 0);
        desk.fix(0, 0, 1, 0, 0);
        desk.addTown(100, 30, 5, 60);
        desk.come(0);
        desk.hang(0);
        Check.due("the one with nothing left", 0, desk.tightest());
    }

    // ---- Promises 33 and 34

    private static void hungShare() {
        Check.promise(33, "does");
        Stagecargo desk = Shows.full();
        Check.dueDouble("none, in no town", 0.0f, desk.hungShare());
        desk.come(3);
        Check.promise(33, "Returns");
        for (int i = 0; i < 6; i++) {
            Check.dueDouble(i + " of six", (float) i / 6.0f, desk.hungShare());
            desk.hang(i);
        }
        Check.dueDouble("all of six", 1.0f, desk.hungShare());
        Stagecargo three = Shows.lightIn(480, 5, 1440, 10, 10, 10);
        three.hang(1);
        Check.dueDouble("one of three", 1.0f / 3.0f, three.hungShare());
        three.addPiece(10, 10, 1, 0);
        Check.dueDouble("one of four", 0.25f, three.hungShare());
        Stagecargo one = Shows.lightIn(480, 5, 1440, 10);
        Check.dueDouble("none of one", 0.0f, one.hungShare());
        one.hang(0);
        Check.dueDouble("all of one", 1.0f, one.hungShare());
    }

    private static void meanLoad() {
        Check.promise(34, "does");
        Check.dueDouble("in no town", 0.0, Shows.full().meanLoad());
        Check.dueDouble("of eight points", 95.0, Shows.fullAndHung().meanLoad());
        Check.promise(34, "Returns");
        Stagecargo desk = Shows.withPoints();
        desk.addPiece(100, 10, 1, 0);
        desk.addPiece(55, 10, 1, 0);
        desk.fix(0, 0, 1, 5, 0);
        desk.fix(1, 1, 2, 30, 0);
        desk.addTown(100, 480, 5, 1440);
        desk.come(0);
        Check.dueDouble("nothing hangs", 0.0, desk.meanLoad());
        desk.hang(0);
        Check.dueDouble("100 on three points", 100.0 / 3.0, desk.meanLoad());
        desk.hang(1);
        Check.dueDouble("155 on three points", 155.0 / 3.0, desk.meanLoad());
        desk.addPoint(50, 100);
        Check.dueDouble("155 on four points", 38.75, desk.meanLoad());
        desk.takeDown();
        desk.takeDown();
        Check.dueDouble("nothing again", 0.0, desk.meanLoad());
        Stagecargo one = new Stagecargo();
        one.addPoint(0, 100);
        Check.dueDouble("of one point", 0.0, one.meanLoad());
    }

    // ---- Promise 35

    private static void isSoundDoes() {
        Check.promise(35, "does");
        Stagecargo desk = Shows.lightIn(100, 20, 400, 60, 50, 40, 70, 30);
        desk.need(1, 0);
        desk.need(4, 1);
        desk.need(4, 2);
        desk.setRates(0, 3, 77, 5);
        desk.setArrival(2, 90);
        Check.isTrue("nothing hangs", desk.isSound());
        int[] order = {2, 0, 1, 4};
        for (int piece : order) {
            desk.hang(piece);
            Check.isTrue("hung behind its needs: " + piece, desk.isSound());
        }
        desk.setRates(0, 9, 200, 1);
        Check.isTrue("other rates", desk.isSound());
        Check.due("the rig is as it was", 4, desk.hung());
        while (desk.hung() > 0) {
            desk.takeDown();
            Check.isTrue("taken down to " + desk.hung(), desk.isSound());
        }
    }

    private static void isSoundAtTheLimit() {
        Check.promise(35, "does");
        Stagecargo desk = Shows.withPoints();
        desk.addPiece(1600, 60, 1, 0);
        desk.fix(0, 0, 1, 10, 0);
        desk.addTown(100, 60, 5, 60);
        desk.come(0);
        desk.hang(0);
        Check.due("a point bears all that it may", desk.mayBear(1), desk.bears(1));
        Check.isTrue("it bears no more than it may", desk.isSound());
    }

    private static void isSoundReturns() {
        Check.promise(35, "Returns");
        Check.isTrue("in no town, on a new desk", new Stagecargo().isSound());
        Check.isTrue("in no town, with everything", Shows.full().isSound());
        Check.isTrue("in no town, with needs", Shows.onTheRoad().isSound());
        Check.isTrue("in a town, without points", Shows.withoutPoints().isSound());
        Check.isTrue("in a town, without pieces", Shows.withoutPieces().isSound());
        Check.isTrue("in a town, busy", Shows.busy().isSound());
        Check.isTrue("in a town, all hung", Shows.fullAndHung().isSound());
        Stagecargo desk = Shows.full();
        for (int town = 0; town < 4; town++) {
            desk.come(town);
            Check.isTrue("town " + town + ", nothing hangs", desk.isSound());
            desk.complete();
            Check.isTrue("town " + town + ", completed", desk.isSound());
        }
    }
}
