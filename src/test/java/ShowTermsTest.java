import java.util.NoSuchElementException;

/** "Terms", the first half, sentence by sentence: asking, points, pieces, towns and time. */
public final class ShowTermsTest {
    private static final Class<? extends RuntimeException> ARGUMENT = IllegalArgumentException.class;
    private static final Class<? extends RuntimeException> STATE = IllegalStateException.class;
    private static final Class<? extends RuntimeException> INDEX = IndexOutOfBoundsException.class;
    private static final Class<? extends RuntimeException> ELEMENT = NoSuchElementException.class;

    public static void main(String[] args) {
        askingChangesNothing();
        noPointBearsMore();
        asMuchAsMayBe();
        eightPoints();
        placeAndLimit();
        sixPieces();
        truckOfAPiece();
        fixing();
        partRoundedDown();
        loadRoundedUp();
        heaviestLoads();
        needs();
        fourTowns();
        lawsOfATown();
        whatAPointMayBear();
        noTownAtFirst();
        minuteZero();
        trucksAtFirst();
        Check.finish("ShowTermsTest");
    }

    // ---- What calls do

    private static void askingChangesNothing() {
        Check.terms("Its calls enter the show, the towns and what is done; all other calls ask.");
        Check.Made[] all = {Stagecargo::new, Shows::full, Shows::busy, Shows::fullAndHung};
        for (Check.Made made : all) {
            Stagecargo asked = made.desk();
            String first = Snapshot.of(asked);
            Check.dueText("asked twice", first, Snapshot.of(asked));
            Stagecargo once = made.desk();
            Snapshot.of(once);
            Check.dueText("asked before all that it holds is looked at", Probe.of(made.desk()), Probe.of(once));
        }
    }

    private static void noPointBearsMore() {
        Check.terms("No point ever bears more than its town allows.");
        Check.Made[] all = {Shows::full, Shows::onTheRoad};
        for (Check.Made made : all) {
            for (int town = 0; town < 2; town++) {
                Stagecargo desk = made.desk();
                desk.come(town);
                desk.complete();
                for (int point = 0; point < 4; point++) {
                    Check.isTrue("point " + point, desk.bears(point) <= desk.mayBear(point));
                }
            }
        }
    }

    /** Three times 333 kg and one kilogram more, on a point for 1000, and then for 999. */
    private static void asMuchAsMayBe() {
        Check.terms("No point ever bears more than its town allows.");
        Stagecargo desk = Shows.withPoints();
        for (int i = 0; i < 3; i++) {
            desk.addPiece(333, 5, 1, 0);
            desk.fix(i, 0, 1, 0, 0);
        }
        desk.addPiece(10, 5, 1, 0);
        desk.fix(3, 0, 1, 18, 0);
        desk.addTown(100, 480, 5, 1440);
        desk.come(0);
        Shows.hangAll(desk, 0, 1, 2);
        Check.due("999 of 1000", 999, desk.bears(0));
        desk.hang(3);
        Check.due("1000 of 1000", 1000, desk.bears(0));
        desk.takeDown();
        desk.fix(3, 0, 1, 16, 0);
        Check.thrown("1001 of 1000", STATE, () -> desk.hang(3));
        Check.due("is not borne", 999, desk.bears(0));
        desk.addTown(99, 480, 5, 1440);
        desk.come(1);
        Shows.hangAll(desk, 0, 1);
        Check.thrown("999 of 990", STATE, () -> desk.hang(2));
    }

    // ---- Points

    private static void eightPoints() {
        Check.terms("At most 8 points are numbered from 0.");
        Stagecargo desk = new Stagecargo();
        Check.thrown("of none", INDEX, () -> desk.bears(0));
        for (int i = 0; i < 8; i++) {
            Check.due("number", i, desk.addPoint(i, 100));
            Check.due("is there", 0, desk.bears(i));
            int next = i + 1;
            Check.thrown("the next one is not", INDEX, () -> desk.bears(next));
        }
        Check.thrown("a ninth one", STATE, () -> desk.addPoint(8, 100));
        Check.thrown("is not there", INDEX, () -> desk.bears(8));
        Check.thrown("nor is one before the first", INDEX, () -> desk.bears(-1));
    }

    private static void placeAndLimit() {
        Check.terms("A point has a place on the beam, 0 to 60, and a limit in kilograms.");
        Check.range("place", 0, 60, ARGUMENT, place -> Shows.withPoints().addPoint(place, 100));
        Stagecargo desk = new Stagecargo();
        desk.addPoint(0, 100);
        desk.addPoint(60, 5000);
        desk.addPoint(60, 2000);
        desk.addPiece(600, 5, 1, 0);
        Check.due("a sixtieth of the whole beam", 10, desk.fix(0, 0, 1, 1, 0));
        Check.due("another point at the same place", 590, desk.fix(0, 0, 2, 59, 0));
        desk.addTown(100, 30, 5, 60);
        desk.come(0);
        Check.due("the limit of the first", 100, desk.mayBear(0));
        Check.due("the limit of the second", 5000, desk.mayBear(1));
        Check.due("the limit of the third", 2000, desk.mayBear(2));
    }

    // ---- Pieces

    private static void sixPieces() {
        Check.terms("At most 6 pieces are numbered from 0.");
        Stagecargo desk = new Stagecargo();
        Check.thrown("of none", ELEMENT, () -> desk.reason(0));
        for (int i = 0; i < 6; i++) {
            Check.due("number", i, desk.addPiece(10, 5, 1, 0));
            Check.dueChar("is there", 't', desk.reason(i));
            int next = i + 1;
            Check.thrown("the next one is not", ELEMENT, () -> desk.reason(next));
        }
        Check.thrown("a seventh one", STATE, () -> desk.addPiece(10, 5, 1, 0));
        Check.thrown("is not there", ELEMENT, () -> desk.reason(6));
        Check.thrown("nor is one before the first", ELEMENT, () -> desk.reason(-1));
    }

    private static void truckOfAPiece() {
        Check.terms("a number of minutes that it takes to hang it, a worth, and a truck, 0 to 2.");
        Check.range("truck", 0, 2, ARGUMENT, truck -> Shows.withPoints().addPiece(10, 5, 1, truck));
        Stagecargo desk = Shows.lightIn(480, 5, 1440, 5, 5, 5);
        desk.hang(2);
        Check.due("truck 0 is free", 0, desk.setArrival(0, 9));
        Check.due("truck 1 is free", 0, desk.setArrival(1, 9));
        Check.thrown("truck 2 is not", STATE, () -> desk.setArrival(2, 9));
    }

    private static void fixing() {
        Stagecargo desk = Shows.onTheRoad();
        Check.dueText("at first it has none", "0 0 0 0", loadsOf(desk, 3));
        Check.terms("a left point, a right point, whose place is greater");
        Check.thrown("a right point at a lesser place", ARGUMENT, () -> desk.fix(3, 1, 0, 10, 0));
        Check.thrown("a right point at the same place", ARGUMENT, () -> desk.fix(3, 1, 3, 20, 0));
        Check.thrown("twice the same point", ARGUMENT, () -> desk.fix(3, 1, 1, 20, 0));
        Check.terms("not less than the place of the left point and not greater than that of the right one");
        Check.thrown("a centre before the left point", ARGUMENT, () -> desk.fix(3, 1, 2, 19, 0));
        Check.thrown("a centre behind the right point", ARGUMENT, () -> desk.fix(3, 1, 2, 41, 0));
        Check.terms("and an angle, 0 to 60");
        Check.thrown("an angle below 0", ARGUMENT, () -> desk.fix(3, 1, 2, 20, -1));
        Check.thrown("an angle over 60", ARGUMENT, () -> desk.fix(3, 1, 2, 20, 61));
        Check.terms("It can have a fixing");
        Check.dueText("what was refused is none", "0 0 0 0", loadsOf(desk, 3));
        Check.due("a centre at the left point, no angle", 0, desk.fix(3, 1, 2, 20, 0));
        Check.dueText("all on the left point", "0 10 0 0", loadsOf(desk, 3));
        Check.due("a centre at the right point, the greatest angle", 10, desk.fix(3, 1, 2, 40, 60));
        Check.dueText("all on the right point", "0 0 16 0", loadsOf(desk, 3));
        Stagecargo near = new Stagecargo();
        near.addPoint(59, 100);
        near.addPoint(60, 100);
        near.addPiece(11, 5, 1, 0);
        Check.due("a right point that is just greater", 11, near.fix(0, 0, 1, 60, 0));
    }

    private static String loadsOf(Stagecargo desk, int piece) {
        return desk.loadOn(piece, 0) + " " + desk.loadOn(piece, 1) + " " + desk.loadOn(piece, 2) + " "
                + desk.loadOn(piece, 3);
    }

    private static void partRoundedDown() {
        // weight, place of the left point, of the right one, centre, right part, left part
        int[][] cases = {{100, 10, 13, 11, 33, 67}, {100, 10, 13, 12, 66, 34}, {100, 10, 13, 10, 0, 100},
                {100, 10, 13, 13, 100, 0}, {10, 0, 60, 5, 0, 10}, {10, 0, 60, 6, 1, 9}, {10, 0, 60, 59, 9, 1},
                {2000, 0, 60, 59, 1966, 34}, {2000, 0, 60, 1, 33, 1967}, {1999, 0, 59, 58, 1965, 34}};
        for (int[] c : cases) {
            Stagecargo desk = new Stagecargo();
            desk.addPoint(c[1], 5000);
            desk.addPoint(c[2], 5000);
            desk.addPiece(c[0], 5, 1, 0);
            Check.terms("divided by the distance of both places and rounded down");
            Check.due("right part", c[4], desk.fix(0, 0, 1, c[3], 0));
            Check.due("load of the right part", c[4], desk.loadOn(0, 1));
            Check.terms("the part of the left point is the rest of the weight");
            Check.due("load of the left part", c[5], desk.loadOn(0, 0));
        }
    }

    private static void loadRoundedUp() {
        // Of 50 kg the right part is the centre; then the angle, the left load and the right load.
        int[][] cases = {{0, 0, 50, 0}, {0, 1, 51, 0}, {0, 2, 51, 0}, {0, 3, 52, 0}, {1, 0, 49, 1}, {1, 1, 50, 2},
                {1, 59, 78, 2}, {1, 60, 79, 2}, {25, 3, 26, 26}, {25, 4, 26, 26}, {25, 5, 27, 27}, {20, 5, 32, 21},
                {20, 10, 33, 22}, {50, 59, 0, 80}, {50, 60, 0, 80}, {49, 60, 2, 79}};
        for (int[] c : cases) {
            Stagecargo desk = new Stagecargo();
            desk.addPoint(0, 5000);
            desk.addPoint(50, 5000);
            desk.addPiece(50, 5, 1, 0);
            desk.fix(0, 0, 1, c[0], c[1]);
            Check.terms("with its part times 100 plus the angle, divided by 100 and rounded up");
            Check.due("left load, centre " + c[0] + ", angle " + c[1], c[2], desk.loadOn(0, 0));
            Check.terms("(That is, of part * (100 + angle) / 100.)");
            Check.due("right load, centre " + c[0] + ", angle " + c[1], c[3], desk.loadOn(0, 1));
            desk.addTown(100, 30, 5, 60);
            desk.come(0);
            desk.hang(0);
            Check.due("the left point bears it", c[2], desk.bears(0));
            Check.due("the right point bears it", c[3], desk.bears(1));
        }
    }

    private static void heaviestLoads() {
        Check.terms("with its part times 100 plus the angle, divided by 100 and rounded up");
        Stagecargo desk = new Stagecargo();
        desk.addPoint(0, 5000);
        desk.addPoint(60, 5000);
        desk.addPiece(2000, 5, 1, 0);
        Check.due("the heaviest piece over the whole beam", 2000, desk.fix(0, 0, 1, 60, 60));
        Check.due("is a load of", 3200, desk.loadOn(0, 1));
        desk.addTown(64, 30, 5, 60);
        desk.addTown(63, 30, 5, 60);
        desk.come(0);
        Check.due("which 64 of 100 let be borne", 3200, desk.mayBear(1));
        Check.dueChar("just so", '-', desk.reason(0));
        desk.come(1);
        Check.dueChar("and 63 of 100 do not", 'l', desk.reason(0));
        desk.fix(0, 0, 1, 0, 60);
        Check.dueChar("nor on the left point", 'l', desk.reason(0));
        desk.fix(0, 0, 1, 0, 57);
        Check.dueChar("but with a lesser angle", '-', desk.reason(0));
    }

    private static void needs() {
        Check.terms("A piece can need other pieces.");
        Stagecargo desk = Shows.full();
        desk.come(3);
        for (int other = 0; other < 5; other++) {
            Check.due("needs so many", other + 1, desk.need(5, other));
        }
        for (int other = 0; other < 5; other++) {
            Check.dueChar("waits for " + other, 'n', desk.reason(5));
            desk.hang(other);
        }
        Check.dueChar("waits for none", '-', desk.reason(5));
        Check.due("may be hung at last", 210, desk.hang(5));
    }

    // ---- Towns

    private static void fourTowns() {
        Check.terms("At most 4 towns are numbered from 0.");
        Stagecargo desk = new Stagecargo();
        Check.thrown("of none", ELEMENT, () -> desk.come(0));
        for (int i = 0; i < 4; i++) {
            Check.due("number", i, desk.addTown(10, 30, 5, 60));
            desk.come(i);
            Check.due("is there", i, desk.town());
            int next = i + 1;
            Check.thrown("the next one is not", ELEMENT, () -> desk.come(next));
        }
        Check.thrown("a fifth one", STATE, () -> desk.addTown(10, 30, 5, 60));
        Check.thrown("is not there", ELEMENT, () -> desk.come(4));
        Check.thrown("nor is one before the first", ELEMENT, () -> desk.come(-1));
        Check.due("the show is in the last one", 3, desk.town());
    }

    private static void lawsOfATown() {
        Check.terms("A town has an allowance, a stretch, a pause, a curfew and rates.");
        Stagecargo desk = Shows.light(30, 30, 30);
        desk.addTown(50, 60, 20, 110);
        desk.addTown(60, 30, 10, 109);
        desk.setRates(0, 1, 50, 2);
        desk.setRates(1, 3, 40, 4);
        desk.come(0);
        Check.due("its allowance", 2500, desk.mayBear(0));
        Shows.hangAll(desk, 0, 1);
        Check.due("its stretch", 60, desk.end());
        Check.dueChar("its curfew", '-', desk.reason(2));
        desk.hang(2);
        Check.due("its pause", 80, desk.beginOf(2));
        Check.due("its rates", 50 + 10 * 2 + 30 * 2, desk.cost());
        desk.come(1);
        Check.due("another allowance", 3000, desk.mayBear(0));
        Shows.hangAll(desk, 0, 1);
        Check.due("another stretch and pause", 70, desk.end());
        Check.dueChar("another curfew", 'c', desk.reason(2));
        Check.due("other rates", 30 * 3 + 30 * 4, desk.cost());
    }

    private static void whatAPointMayBear() {
        Check.terms("In a town, a point may bear its limit times the allowance, divided by 100 and rounded down.");
        Stagecargo desk = Shows.withPoints();
        desk.addPoint(50, 101);
        desk.addPoint(51, 5000);
        desk.addTown(99, 30, 5, 60);
        desk.addTown(10, 30, 5, 60);
        desk.addTown(100, 30, 5, 60);
        int[][] due = {{990, 792, 495, 99, 4950}, {100, 80, 50, 10, 500}, {1000, 800, 500, 101, 5000}};
        for (int town = 0; town < due.length; town++) {
            desk.come(town);
            for (int point = 0; point < 5; point++) {
                Check.due("point " + point + " in town " + town, due[town][point], desk.mayBear(point));
            }
        }
    }

    private static void noTownAtFirst() {
        Check.terms("The show is in no town at first.");
        Check.thrown("on a new desk", ELEMENT, new Stagecargo()::town);
        Stagecargo desk = Shows.full();
        Check.thrown("with four towns", ELEMENT, desk::town);
        Check.thrown("no point may bear anything", STATE, () -> desk.mayBear(0));
        for (int piece = 0; piece < 6; piece++) {
            Check.dueChar("no piece can be hung", 't', desk.reason(piece));
        }
        desk.come(0);
        Check.due("then it is in one", 0, desk.town());
    }

    // ---- Time

    private static void minuteZero() {
        Check.terms("Time is counted in minutes; when the show comes to a town, it is minute 0.");
        Stagecargo desk = Shows.full();
        desk.come(3);
        Check.due("at first", 0, desk.end());
        Check.due("a piece begins and takes 60 minutes", 60, desk.hang(5));
        desk.come(2);
        Check.due("in another town", 0, desk.end());
        desk.hang(4);
        Check.due("a piece begins", 0, desk.beginOf(4));
        desk.come(2);
        Check.due("in the same town", 0, desk.end());
        desk.hang(3);
        Check.due("a piece begins anew", 0, desk.beginOf(3));
    }

    private static void trucksAtFirst() {
        Check.terms("A truck arrives in a minute, at first minute 0.");
        for (int truck = 0; truck < 3; truck++) {
            Check.due("truck " + truck, 0, new Stagecargo().setArrival(truck, 1440));
            Stagecargo desk = Shows.lightIn(480, 5, 1440, 10, 10, 10);
            desk.hang(truck);
            Check.due("its piece begins", 0, desk.beginOf(truck));
            desk.takeDown();
            Check.due("arrives", 0, desk.setArrival(truck, 77));
            desk.hang(truck);
            Check.due("its piece begins when it arrives", 77, desk.beginOf(truck));
            desk.come(0);
            desk.hang(truck);
            Check.due("and so it does when the show has come anew", 77, desk.beginOf(truck));
        }
    }
}
