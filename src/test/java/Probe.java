/**
 * All that a desk holds, as a text: what can be asked, and then what only further calls bring to light,
 * such as the arrivals, the needs, the other towns and how many things there are. The desk is used up by
 * it: about 250 calls.
 */
final class Probe {
    private Probe() {
    }

    static String of(Stagecargo desk) {
        StringBuilder text = new StringBuilder(Snapshot.of(desk));
        takeAllDown(text, desk);
        for (int town = 0; town < 5; town++) {
            completeIn(text, desk, town);
        }
        // In a town to which the show has just come nothing is hung that could keep needs and arrivals as they are.
        Snapshot.add(text, "come", () -> desk.come(0));
        needsAndArrivals(text, desk);
        ratesAndNumbers(text, desk);
        return text.toString();
    }

    private static void takeAllDown(StringBuilder text, Stagecargo desk) {
        for (int i = 0; i < 7; i++) {
            Snapshot.add(text, "takeDown", desk::takeDown);
            Snapshot.add(text, "end", desk::end);
            Snapshot.add(text, "work", desk::work);
        }
    }

    private static void completeIn(StringBuilder text, Stagecargo desk, int town) {
        Snapshot.add(text, "come", () -> desk.come(town));
        Snapshot.add(text, "complete", desk::complete);
        Snapshot.add(text, "end", desk::end);
        Snapshot.add(text, "work", desk::work);
        Snapshot.add(text, "cost", desk::cost);
        for (int point = 0; point < 8; point++) {
            int number = point;
            Snapshot.add(text, "mayBear", () -> desk.mayBear(number));
        }
    }

    private static void needsAndArrivals(StringBuilder text, Stagecargo desk) {
        for (int piece = 0; piece < 6; piece++) {
            int number = piece;
            Snapshot.add(text, "need", () -> desk.need(number, (number + 1) % 6));
            Snapshot.add(text, "need", () -> desk.need(number, (number + 5) % 6));
        }
        for (int truck = 0; truck < 3; truck++) {
            int number = truck;
            Snapshot.add(text, "setArrival", () -> desk.setArrival(number, 0));
        }
    }

    private static void ratesAndNumbers(StringBuilder text, Stagecargo desk) {
        for (int town = 0; town < 5; town++) {
            int number = town;
            Snapshot.add(text, "setRates", () -> desk.setRates(number, 0, 0, 0));
        }
        Snapshot.add(text, "addPoint", () -> desk.addPoint(0, 100));
        Snapshot.add(text, "addPiece", () -> desk.addPiece(10, 5, 1, 0));
        Snapshot.add(text, "addTown", () -> desk.addTown(10, 30, 5, 60));
    }
}
