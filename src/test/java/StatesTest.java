import java.util.NoSuchElementException;

/** Every call in the states at the edge: nothing entered, no town, nothing hung, and all that there can be hung. */
public final class StatesTest {
    private static final Class<? extends RuntimeException> ARGUMENT = IllegalArgumentException.class;
    private static final Class<? extends RuntimeException> STATE = IllegalStateException.class;
    private static final Class<? extends RuntimeException> INDEX = IndexOutOfBoundsException.class;
    private static final Class<? extends RuntimeException> ELEMENT = NoSuchElementException.class;
    private static final Class<? extends RuntimeException> NUMBER = ArithmeticException.class;

    public static void main(String[] args) {
        Check.promise(1, "does");
        nothingEntered();
        Check.terms("The show is in no town at first.");
        noTown();
        noTownEntered();
        Check.terms("by hanging none, one or more pieces");
        nothingHung();
        nothingHungYet();
        Check.terms("At most 8 points are numbered from 0.");
        fullShow();
        Check.terms("At most 6 pieces are numbered from 0.");
        allHung();
        allHungAndTakenDown();
        Check.terms("At most 4 towns are numbered from 0.");
        allTowns();
        lastOfAllCalls();
        Check.finish("StatesTest");
    }

    private static void nothingEntered() {
        Stagecargo desk = new Stagecargo();
        Check.thrown("fix", ELEMENT, () -> desk.fix(0, 0, 1, 0, 0));
        Check.thrown("need", ELEMENT, () -> desk.need(0, 1));
        Check.thrown("setRates", ELEMENT, () -> desk.setRates(0, 0, 0, 0));
        Check.thrown("come", ELEMENT, () -> desk.come(0));
        Check.thrown("loadOn", ELEMENT, () -> desk.loadOn(0, 0));
        Check.thrown("mayBear", INDEX, () -> desk.mayBear(0));
        Check.thrown("bears", INDEX, () -> desk.bears(0));
        Check.thrown("reason", ELEMENT, () -> desk.reason(0));
        Check.thrown("hang", ELEMENT, () -> desk.hang(0));
        Check.thrown("hungShare", NUMBER, desk::hungShare);
        Check.thrown("meanLoad", NUMBER, desk::meanLoad);
        inNoTown(desk);
        for (int truck = 0; truck < 3; truck++) {
            Check.due("setArrival", 0, desk.setArrival(truck, 1440));
        }
        Check.due("addPoint", 0, desk.addPoint(60, 5000));
        Check.due("addPiece", 0, desk.addPiece(2000, 240, 99, 2));
        Check.due("addTown", 0, desk.addTown(100, 480, 120, 1440));
    }

    private static void noTown() {
        Stagecargo desk = Shows.full();
        for (int piece = 0; piece < 6; piece++) {
            int number = piece;
            Check.dueChar("reason", 't', desk.reason(piece));
            Check.thrown("hang", STATE, () -> desk.hang(number));
        }
        for (int point = 0; point < 8; point++) {
            int number = point;
            Check.due("bears", 0, desk.bears(point));
            Check.thrown("mayBear", STATE, () -> desk.mayBear(number));
        }
        Check.due("loadOn", 160, desk.loadOn(5, 7));
        Check.dueDouble("hungShare", 0.0f, desk.hungShare());
        Check.dueDouble("meanLoad", 0.0, desk.meanLoad());
        inNoTown(desk);
        Check.due("a fixing", 50, desk.fix(0, 0, 2, 8, 0));
        Check.due("a need", 1, desk.need(0, 1));
        Check.due("an arrival", 0, desk.setArrival(0, 1));
        Check.due("rates", 2, desk.setRates(3, 1, 1, 1));
        nothingMoreIsEntered(desk);
        Check.due("come", 0, desk.come(3));
        Check.due("in a town at last", 3, desk.town());
    }

    private static void noTownEntered() {
        Stagecargo desk = Shows.light(10, 20);
        Check.dueChar("reason", 't', desk.reason(0));
        Check.thrown("hang", STATE, () -> desk.hang(0));
        Check.thrown("come", ELEMENT, () -> desk.come(0));
        Check.thrown("setRates", ELEMENT, () -> desk.setRates(0, 0, 0, 0));
        Check.thrown("mayBear", STATE, () -> desk.mayBear(0));
        inNoTown(desk);
    }

    private static void inNoTown(Stagecargo desk) {
        Check.thrown("town", ELEMENT, desk::town);
        Check.thrown("tightest", STATE, desk::tightest);
        withoutRig(desk);
        Check.best("best", desk, 0, 0, 0);
        Check.due("complete", 0, desk.complete());
        Check.due("completions", 1, desk.completions());
        Check.isTrue("isSound", desk.isSound());
    }

    private static void withoutRig(Stagecargo desk) {
        Check.thrown("takeDown", STATE, desk::takeDown);
        Check.due("hung", 0, desk.hung());
        Check.thrown("hungAt", INDEX, () -> desk.hungAt(0));
        for (int piece = 0; piece < 6; piece++) {
            int number = piece;
            Check.thrown("beginOf", ELEMENT, () -> desk.beginOf(number));
        }
        Check.due("end", 0, desk.end());
        Check.due("work", 0, desk.work());
        Check.due("cost", 0, desk.cost());
        Check.due("costByMinutes", 0, desk.costByMinutes());
    }

    private static void nothingHung() {
        Stagecargo desk = Shows.full();
        desk.come(3);
        withoutRig(desk);
        for (int piece = 0; piece < 6; piece++) {
            Check.dueChar("reason", '-', desk.reason(piece));
        }
        for (int point = 0; point < 8; point++) {
            Check.due("bears", 0, desk.bears(point));
            Check.due("mayBear", 1000 + point, desk.mayBear(point));
        }
        Check.due("tightest", 0, desk.tightest());
        Check.dueDouble("hungShare", 0.0f, desk.hungShare());
        Check.dueDouble("meanLoad", 0.0, desk.meanLoad());
        Check.best("best", desk, 21, 210, 530, 0, 1, 2, 3, 4, 5);
        Check.due("completions", 1957, desk.completions());
        Check.isTrue("isSound", desk.isSound());
        Check.due("come", 0, desk.come(3));
        Check.due("complete", 6, desk.complete());
    }

    private static void nothingHungYet() {
        Stagecargo desk = Shows.full();
        desk.come(3);
        Check.due("town", 3, desk.town());
        Check.due("loadOn", 160, desk.loadOn(5, 7));
        nothingMoreIsEntered(desk);
        for (int piece = 0; piece < 6; piece++) {
            Check.due("fix", 0, desk.fix(piece, 0, 7, 0, 0));
        }
        for (int truck = 0; truck < 3; truck++) {
            Check.due("setArrival", 0, desk.setArrival(truck, 9));
        }
        Check.due("setRates", 2, desk.setRates(3, 0, 0, 0));
        Check.due("need", 1, desk.need(5, 4));
        Check.thrown("hang what needs another", STATE, () -> desk.hang(5));
        Check.due("hang", 59, desk.hang(4));
    }

    private static void nothingMoreIsEntered(Stagecargo desk) {
        Check.thrown("a ninth point", STATE, () -> desk.addPoint(0, 100));
        Check.thrown("a seventh piece", STATE, () -> desk.addPiece(10, 5, 1, 0));
        Check.thrown("a fifth town", STATE, () -> desk.addTown(10, 30, 5, 60));
    }

    private static void fullShow() {
        Stagecargo desk = Shows.full();
        nothingMoreIsEntered(desk);
        Check.thrown("no point 8 to fix at", INDEX, () -> desk.fix(5, 6, 8, 60, 0));
        Check.thrown("no point 8 to load", INDEX, () -> desk.loadOn(5, 8));
        Check.thrown("no piece 6 to fix", ELEMENT, () -> desk.fix(6, 6, 7, 60, 0));
        Check.thrown("no piece 6 to need", ELEMENT, () -> desk.need(5, 6));
        Check.thrown("no town 4 to come to", ELEMENT, () -> desk.come(4));
        Check.thrown("no town 4 for rates", ELEMENT, () -> desk.setRates(4, 0, 0, 0));
        Check.due("the last piece at the last points", 50, desk.fix(5, 6, 7, 54, 0));
        Check.due("loads the last but one", 50, desk.loadOn(5, 6));
        Check.due("and the last", 50, desk.loadOn(5, 7));
        Check.due("the last piece needs the last but one", 1, desk.need(5, 4));
        Check.due("the rate of the last town", 2, desk.setRates(3, 99, 1440, 99));
        Check.due("the last truck", 0, desk.setArrival(2, 1440));
    }

    private static void allHung() {
        Stagecargo desk = Shows.fullAndHung();
        int[] begins = {200, 180, 150, 110, 60, 0};
        int[] loads = {100, 110, 120, 130, 140, 0, 0, 160};
        for (int piece = 0; piece < 6; piece++) {
            int number = piece;
            Check.dueChar("reason", 'h', desk.reason(piece));
            Check.thrown("hang", STATE, () -> desk.hang(number));
            Check.thrown("fix", STATE, () -> desk.fix(number, 0, 7, 0, 0));
            Check.thrown("need", STATE, () -> desk.need(number, (number + 1) % 6));
            Check.due("hungAt", 5 - piece, desk.hungAt(piece));
            Check.due("beginOf", begins[piece], desk.beginOf(piece));
        }
        for (int truck = 0; truck < 3; truck++) {
            int number = truck;
            Check.thrown("setArrival", STATE, () -> desk.setArrival(number, 0));
        }
        for (int point = 0; point < 8; point++) {
            Check.due("bears", loads[point], desk.bears(point));
            Check.due("mayBear", 1000 + point, desk.mayBear(point));
            Check.due("loadOn", point == 4 ? 140 : 0, desk.loadOn(4, point));
        }
        nothingMoreIsEntered(desk);
        Check.due("town", 3, desk.town());
        Check.due("setRates", 2, desk.setRates(3, 2, 100, 3));
        Check.due("hung", 6, desk.hung());
        Check.thrown("hungAt(6)", INDEX, () -> desk.hungAt(6));
        Check.due("end", 210, desk.end());
        Check.due("work", 210, desk.work());
        Check.due("cost", 530, desk.cost());
        Check.due("costByMinutes", 530, desk.costByMinutes());
        Check.best("best", desk, 21, 210, 530, 5, 4, 3, 2, 1, 0);
        Check.due("complete", 0, desk.complete());
        Check.due("completions", 1, desk.completions());
        Check.due("tightest", 7, desk.tightest());
        Check.dueDouble("hungShare", 1.0f, desk.hungShare());
        Check.dueDouble("meanLoad", 95.0, desk.meanLoad());
        Check.isTrue("isSound", desk.isSound());
    }

    private static void allHungAndTakenDown() {
        Stagecargo desk = Shows.fullAndHung();
        for (int piece = 0; piece < 6; piece++) {
            Check.due("takeDown", piece, desk.takeDown());
            Check.dueChar("reason", '-', desk.reason(piece));
            Check.due("bears", 0, desk.bears(piece == 5 ? 7 : piece));
        }
        withoutRig(desk);
        Check.due("completions", 1957, desk.completions());
        Shows.hangAll(desk, 0, 1, 2, 3, 4, 5);
        Check.due("come", 6, desk.come(3));
        withoutRig(desk);
        Check.due("completions in the town to which it came", 1957, desk.completions());
    }

    private static void allTowns() {
        Stagecargo desk = Shows.full();
        int[] hung = {1, 3, 6, 6};
        int[] ends = {10, 60, 210, 210};
        int before = 0;
        for (int town = 0; town < 4; town++) {
            Check.due("come", before, desk.come(town));
            Check.due("town", town, desk.town());
            before = desk.complete();
            Check.due("complete", hung[town], before);
            Check.due("end", ends[town], desk.end());
            Check.thrown("a town beyond the last", ELEMENT, () -> desk.come(4));
            Check.thrown("rates out of range", ARGUMENT, () -> desk.setRates(0, 100, 0, 0));
            Check.due("what hangs goes on hanging", hung[town], desk.hung());
        }
    }

    private static void lastOfAllCalls() {
        Check.whatItIs("An object is used for at most 512 calls after it has been made;");
        Check.whatItIs("what later calls answer is free.");
        Stagecargo desk = Shows.full();
        int calls = 8 + 2 * 6 + 1 + 4 + 1;
        int before = 0;
        while (calls + 6 <= 512) {
            Check.due("come", before, desk.come(3));
            before = desk.complete();
            Check.due("completions", 1, desk.completions());
            Check.isTrue("isSound", desk.isSound());
            calls += 4;
        }
        Check.due("takeDown", 5, desk.takeDown());
        Check.due("hang as the last of 512", 210, desk.hang(5));
        Check.due("so many calls", 512, calls + 2);
    }
}
