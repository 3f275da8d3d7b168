/** Desks that several tests begin with. */
final class Shows {
    private Shows() {
    }

    /** Points at 0, 20 and 40 that bear 1000, 800 and 500; nothing else. */
    static Stagecargo withPoints() {
        Stagecargo desk = new Stagecargo();
        desk.addPoint(0, 1000);
        desk.addPoint(20, 800);
        desk.addPoint(40, 500);
        return desk;
    }

    /** Two points that bear whatever is hung, and fixed pieces of 10 kg with these minutes, of trucks 0, 1, 2, 0 .. */
    static Stagecargo light(int... minutes) {
        Stagecargo desk = new Stagecargo();
        desk.addPoint(0, 5000);
        desk.addPoint(10, 5000);
        for (int i = 0; i < minutes.length; i++) {
            desk.addPiece(10, minutes[i], 5, i % 3);
            desk.fix(i, 0, 1, 5, 0);
        }
        return desk;
    }

    /** The same, brought to a town with allowance 100 and the given laws. */
    static Stagecargo lightIn(int stretch, int pause, int curfew, int... minutes) {
        Stagecargo desk = light(minutes);
        desk.addTown(100, stretch, pause, curfew);
        desk.come(0);
        return desk;
    }

    /** Piece 0 of three hung in a town with rates; everything else could be hung, too. */
    static Stagecargo oneHung() {
        Stagecargo desk = lightIn(100, 20, 600, 40, 50, 60);
        desk.setRates(0, 2, 30, 5);
        desk.need(1, 0);
        desk.hang(0);
        return desk;
    }

    static void hangAll(Stagecargo desk, int... pieces) {
        for (int piece : pieces) {
            desk.hang(piece);
        }
    }
}
