/** Desks that several tests begin with. */
final class Shows {
    private Shows() {
    }

    /** Points at 0, 20 and 40 that bear 1000, 800 and 500; nothing else. */
    static Stagecargo withPoints() {
        Stagecargo desk = new Stagecargo();
        desk.addPoint(0, 1000);
        desk.addPoint(20, 800);
        desk.addPoint(40, 500);
        return desk;
    }

    /** Two points that bear whatever is hung, and fixed pieces of 10 kg with these minutes, of trucks 0, 1, 2, 0 .. */
    static Stagecargo light(int... minutes) {
        Stagecargo desk = new Stagecargo();
        desk.addPoint(0, 5000);
        desk.addPoint(10, 5000);
        for (int i = 0; i < minutes.length; i++) {
            desk.addPiece(10, minutes[i], 5, i % 3);
            desk.fix(i, 0, 1, 5, 0);
        }
        return desk;
    }

    /** The same, brought to a town with allowance 100 and the given laws. */
    static Stagecargo lightIn(int stretch, int pause, int curfew, int... minutes) {
        Stagecargo desk = light(minutes);
        desk.addTown(100, stretch, pause, curfew);
        desk.come(0);
        return desk;
    }

    /** Piece 0 of three hung in a town with rates; everything else could be hung, too. */
    static Stagecargo oneHung() {
        Stagecargo desk = lightIn(100, 20, 600, 40, 50, 60);
        desk.setRates(0, 2, 30, 5);
        desk.need(1, 0);
        desk.hang(0);
        return desk;
    }

    /**
     * Four points, 1 and 3 at the same place; four pieces, 3 without a fixing, 1 needs 0 and 2 needs 1; two
     * towns with rates; trucks 1 and 2 are late. The show is in no town.
     */
    static Stagecargo onTheRoad() {
        Stagecargo desk = withPoints();
        desk.addPoint(20, 300);
        desk.addPiece(900, 60, 10, 0);
        desk.addPiece(600, 40, 8, 1);
        desk.addPiece(100, 50, 5, 2);
        desk.addPiece(10, 5, 1, 1);
        desk.fix(0, 0, 1, 5, 0);
        desk.fix(1, 1, 2, 30, 50);
        desk.fix(2, 0, 2, 20, 0);
        desk.need(1, 0);
        desk.need(2, 1);
        desk.setArrival(1, 70);
        desk.setArrival(2, 200);
        desk.addTown(90, 60, 5, 60);
        desk.addTown(100, 100, 20, 600);
        desk.setRates(0, 9, 10, 8);
        desk.setRates(1, 2, 30, 5);
        return desk;
    }

    /** The same in town 1, with pieces 0 and 1 hung, of trucks 0 and 1; piece 2 could be hung next. */
    static Stagecargo busy() {
        Stagecargo desk = onTheRoad();
        desk.come(1);
        hangAll(desk, 0, 1);
        return desk;
    }

    /**
     * 8 points, 6 pieces of 10, 20 .. 60 minutes and worth 1 to 6, and 4 towns, the last one of which lets all
     * pieces be hung in any order. Pieces 0 to 4 hang wholly on the point of their number, piece 5 on point 7.
     * The show is in no town.
     */
    static Stagecargo full() {
        Stagecargo desk = new Stagecargo();
        for (int i = 0; i < 8; i++) {
            desk.addPoint(i == 7 ? 60 : i * 8, 1000 + i);
        }
        for (int i = 0; i < 6; i++) {
            desk.addPiece(100, 10 * (i + 1), i + 1, i % 3);
            desk.fix(i, i, 7, i * 8, 10 * i);
        }
        desk.fix(5, 6, 7, 60, 60);
        desk.addTown(10, 30, 120, 60);
        desk.addTown(50, 60, 60, 120);
        desk.addTown(99, 479, 6, 1439);
        desk.addTown(100, 480, 5, 1440);
        desk.setRates(3, 2, 100, 3);
        return desk;
    }

    /** The same in town 3 with all pieces hung, in the order 5, 4, .. 0. */
    static Stagecargo fullAndHung() {
        Stagecargo desk = full();
        desk.come(3);
        hangAll(desk, 5, 4, 3, 2, 1, 0);
        return desk;
    }

    /** A town and pieces, but no points. */
    static Stagecargo withoutPoints() {
        Stagecargo desk = new Stagecargo();
        desk.addPiece(10, 5, 1, 0);
        desk.addTown(100, 30, 5, 60);
        desk.come(0);
        return desk;
    }

    /** A town and points, but no pieces. */
    static Stagecargo withoutPieces() {
        Stagecargo desk = withPoints();
        desk.addTown(100, 30, 5, 60);
        desk.come(0);
        return desk;
    }

    static void hangAll(Stagecargo desk, int... pieces) {
        for (int piece : pieces) {
            desk.hang(piece);
        }
    }
}
