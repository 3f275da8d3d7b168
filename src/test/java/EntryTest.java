import java.util.NoSuchElementException;

/**
 * Promises 1 to 9, part by part: what enters the show, the towns and where it is. What these calls refuse is
 * told whole in RefusalTest.
 */
public final class EntryTest {
    private static final Class<? extends RuntimeException> ARGUMENT = IllegalArgumentException.class;
    private static final Class<? extends RuntimeException> STATE = IllegalStateException.class;
    private static final Class<? extends RuntimeException> INDEX = IndexOutOfBoundsException.class;
    private static final Class<? extends RuntimeException> ELEMENT = NoSuchElementException.class;

    public static void main(String[] args) {
        newDesk();
        desksApart();
        addPointDoes();
        addPointPlace();
        addPointLimit();
        addPointReturns();
        addPieceDoes();
        addPieceWeight();
        addPieceMinutes();
        addPieceWorth();
        addPieceTruck();
        addPieceReturns();
        fixDoes();
        fixPiece();
        fixPoints();
        fixOnPointsNumberedBackwards();
        fixCentre();
        fixAngle();
        fixReturns();
        needDoes();
        needPieces();
        needReturns();
        needMayBeAShortCut();
        setArrivalDoes();
        setArrivalTruckAndMinute();
        setArrivalReturns();
        addTownDoes();
        addTownAllowance();
        addTownStretch();
        addTownPause();
        addTownCurfew();
        addTownReturns();
        setRatesDoes();
        setRatesTown();
        setRatesRanges();
        setRatesReturns();
        comeDoes();
        comeToTheSameTown();
        comeTown();
        comeReturns();
        Check.finish("EntryTest");
    }

    // ---- Promise 1

    private static void newDesk() {
        Check.promise(1, "does");
        Stagecargo desk = new Stagecargo();
        Check.thrown("no point", INDEX, () -> desk.bears(0));
        Check.thrown("no piece", ELEMENT, () -> desk.reason(0));
        Check.thrown("no town", ELEMENT, () -> desk.come(0));
        Check.thrown("and in none", ELEMENT, desk::town);
        Check.due("nothing hangs", 0, desk.hung());
        Check.due("the first point is 0", 0, desk.addPoint(0, 100));
        Check.due("the first piece is 0", 0, desk.addPiece(10, 5, 1, 0));
        Check.due("the first town is 0", 0, desk.addTown(10, 30, 5, 60));
    }

    private static void desksApart() {
        Check.promise(1, "does");
        Stagecargo other = Shows.fullAndHung();
        Stagecargo desk = new Stagecargo();
        Check.due("a second desk has no points", 0, desk.addPoint(0, 100));
        Check.due("and no pieces", 0, desk.addPiece(10, 5, 1, 0));
        Check.due("and no towns", 0, desk.addTown(10, 30, 5, 60));
        Check.due("the first one is as it was", 6, other.hung());
        Check.due("its loads, too", 160, other.bears(7));
    }

    // ---- Promise 2

    private static void addPointDoes() {
        Check.promise(2, "does");
        Stagecargo desk = Shows.withoutPoints();
        Check.thrown("no point yet", INDEX, () -> desk.mayBear(0));
        desk.addPoint(0, 700);
        Check.due("there is one", 700, desk.mayBear(0));
        Check.due("it bears nothing", 0, desk.bears(0));
        Check.thrown("and no second one", INDEX, () -> desk.mayBear(1));
        desk.addPoint(0, 700);
        Check.due("a second one that is just like it", 700, desk.mayBear(1));
        desk.addPoint(10, 900);
        desk.fix(0, 0, 2, 0, 0);
        desk.hang(0);
        Check.due("a third one while a piece hangs", 3, desk.addPoint(5, 100));
        Check.due("which bears nothing", 0, desk.bears(3));
    }

    private static void addPointPlace() {
        Check.promise(2, "place");
        Check.range("place", 0, 60, ARGUMENT, place -> new Stagecargo().addPoint(place, 100));
        Stagecargo desk = new Stagecargo();
        desk.addPoint(0, 100);
        desk.addPoint(60, 100);
        desk.addPoint(59, 100);
        desk.addPoint(1, 100);
        desk.addPiece(60, 5, 1, 0);
        Check.due("from 0 to 60", 1, desk.fix(0, 0, 1, 1, 0));
        Check.due("from 0 to 59", 60 * 58 / 59, desk.fix(0, 0, 2, 58, 0));
        Check.due("from 1 to 59", 60 * 57 / 58, desk.fix(0, 3, 2, 58, 0));
        Check.due("from 59 to 60", 60, desk.fix(0, 2, 1, 60, 0));
    }

    private static void addPointLimit() {
        Check.promise(2, "limit");
        Check.range("limit", 100, 5000, ARGUMENT, limit -> new Stagecargo().addPoint(0, limit));
        int[] limits = {100, 101, 4999, 5000};
        Stagecargo desk = Shows.withoutPoints();
        for (int i = 0; i < limits.length; i++) {
            desk.addPoint(60 - i, limits[i]);
            Check.due("limit " + limits[i], limits[i], desk.mayBear(i));
        }
    }

    private static void addPointReturns() {
        Check.promise(2, "Returns");
        Stagecargo desk = new Stagecargo();
        for (int i = 0; i < 8; i++) {
            Check.due("number", i, desk.addPoint(60 - i, 100));
        }
    }

    // ---- Promise 3

    private static void addPieceDoes() {
        Check.promise(3, "does");
        Stagecargo desk = Shows.withoutPieces();
        desk.addPiece(100, 10, 1, 0);
        Check.dueChar("it has no fixing", 'f', desk.reason(0));
        for (int point = 0; point < 3; point++) {
            Check.due("and loads no point", 0, desk.loadOn(0, point));
        }
        desk.fix(0, 0, 1, 5, 0);
        Check.dueChar("it needs nothing", '-', desk.reason(0));
        desk.hang(0);
        desk.addPiece(100, 10, 1, 0);
        Check.dueChar("a piece that comes later has none, either", 'f', desk.reason(1));
        Check.due("what hangs goes on hanging", 1, desk.hung());
    }

    private static void addPieceWeight() {
        Check.promise(3, "weight");
        Check.range("weight", 10, 2000, ARGUMENT, weight -> new Stagecargo().addPiece(weight, 5, 1, 0));
        int[] weights = {10, 11, 1999, 2000};
        for (int weight : weights) {
            Stagecargo desk = Shows.withPoints();
            desk.addPiece(weight, 5, 1, 0);
            Check.due("all of it", weight, desk.fix(0, 0, 1, 20, 0));
            Check.due("on the right point", weight, desk.loadOn(0, 1));
        }
    }

    private static void addPieceMinutes() {
        Check.promise(3, "minutes");
        Check.range("minutes", 5, 240, ARGUMENT, minutes -> new Stagecargo().addPiece(10, minutes, 1, 0));
        int[] all = {5, 6, 239, 240};
        for (int minutes : all) {
            Check.due("ends", minutes, Shows.lightIn(480, 5, 1440, minutes).hang(0));
        }
    }

    private static void addPieceWorth() {
        Check.promise(3, "worth");
        Check.range("worth", 1, 99, ARGUMENT, worth -> new Stagecargo().addPiece(10, 5, worth, 0));
        int[] worths = {1, 2, 98, 99};
        for (int worth : worths) {
            Stagecargo desk = Shows.withoutPieces();
            desk.addPiece(10, 5, worth, 0);
            desk.fix(0, 0, 1, 0, 0);
            Check.due("best", worth, desk.bestWorth());
        }
    }

    private static void addPieceTruck() {
        Check.promise(3, "truck");
        Check.range("truck", 0, 2, ARGUMENT, truck -> new Stagecargo().addPiece(10, 5, 1, truck));
        for (int truck = 0; truck < 3; truck++) {
            Stagecargo desk = Shows.withoutPieces();
            desk.addPiece(10, 5, 1, truck);
            desk.fix(0, 0, 1, 0, 0);
            desk.setArrival(0, 10);
            desk.setArrival(1, 11);
            desk.setArrival(2, 12);
            desk.hang(0);
            Check.due("begins with truck " + truck, 10 + truck, desk.beginOf(0));
        }
    }

    private static void addPieceReturns() {
        Check.promise(3, "Returns");
        Stagecargo desk = new Stagecargo();
        for (int i = 0; i < 6; i++) {
            Check.due("number", i, desk.addPiece(2000 - i, 5, 1, 2));
        }
    }

    // ---- Promise 4

    private static void fixDoes() {
        Check.promise(4, "does");
        Stagecargo desk = Shows.withoutPieces();
        desk.addPiece(100, 10, 1, 0);
        desk.fix(0, 0, 1, 10, 0);
        Check.dueChar("it has a fixing now", '-', desk.reason(0));
        Check.due("at the left point", 50, desk.loadOn(0, 0));
        Check.due("a fixing in place of that", 75, desk.fix(0, 1, 2, 35, 0));
        Check.due("nothing is left at the old left point", 0, desk.loadOn(0, 0));
        Check.due("the old right point is the new left one", 25, desk.loadOn(0, 1));
        Check.due("the new right point", 75, desk.loadOn(0, 2));
        desk.fix(0, 1, 2, 35, 20);
        Check.due("the angle in place of the old one", 30, desk.loadOn(0, 1));
        desk.hang(0);
        Check.due("the old point bears nothing", 0, desk.bears(0));
        Check.due("the new one does", 90, desk.bears(2));
        desk.takeDown();
        Check.due("when taken down it may be fixed anew", 50, desk.fix(0, 0, 2, 20, 0));
        desk.hang(0);
        desk.come(0);
        Check.due("and when the show has come anew", 25, desk.fix(0, 0, 2, 10, 0));
    }

    private static void fixPiece() {
        Check.promise(4, "piece");
        for (int piece = 0; piece < 6; piece++) {
            Stagecargo desk = Shows.full();
            Check.due("piece", 100, desk.fix(piece, 0, 1, 8, 0));
            Check.due("is the one on the point", 100, desk.loadOn(piece, 1));
        }
        Check.thrownBeyond("piece", 0, 5, ELEMENT, piece -> Shows.full().fix(piece, 0, 1, 8, 0));
        Check.thrownBeyond("the piece of one", 0, 0, ELEMENT, piece -> Shows.light(5).fix(piece, 0, 1, 5, 0));
    }

    private static void fixPoints() {
        Check.promise(4, "left");
        for (int left = 0; left < 7; left++) {
            Stagecargo desk = Shows.full();
            desk.fix(0, left, 7, left * 8, 0);
            Check.due("left point " + left, 100, desk.loadOn(0, left));
        }
        Check.thrownBeyond("left", 0, 7, INDEX, left -> Shows.full().fix(0, left, 7, 50, 0));
        Check.promise(4, "right");
        for (int right = 1; right < 8; right++) {
            Stagecargo desk = Shows.full();
            desk.fix(0, 0, right, right == 7 ? 60 : right * 8, 0);
            Check.due("right point " + right, 100, desk.loadOn(0, right));
        }
        Check.thrownBeyond("right", 0, 7, INDEX, right -> Shows.full().fix(0, 0, right, 0, 0));
    }

    private static void fixOnPointsNumberedBackwards() {
        Check.promise(4, "right");
        Stagecargo desk = new Stagecargo();
        desk.addPoint(10, 100);
        desk.addPoint(0, 100);
        desk.addPiece(100, 10, 1, 0);
        Check.due("part of point 0 on the right", 30, desk.fix(0, 1, 0, 3, 0));
        Check.due("load on point 0", 30, desk.loadOn(0, 0));
        Check.promise(4, "left");
        Check.due("load on point 1", 70, desk.loadOn(0, 1));
        desk.addTown(100, 30, 5, 60);
        desk.come(0);
        desk.hang(0);
        Check.due("point 0 bears", 30, desk.bears(0));
        Check.due("point 1 bears", 70, desk.bears(1));
        desk.takeDown();
        Check.due("point 0 bears nothing again", 0, desk.bears(0));
        Check.due("point 1 bears nothing again", 0, desk.bears(1));
        desk.addTown(70, 30, 5, 60);
        desk.addTown(69, 30, 5, 60);
        desk.come(1);
        Check.dueChar("point 1 on the left may just bear 70", '-', desk.reason(0));
        desk.come(2);
        Check.dueChar("and not with 69", 'l', desk.reason(0));
        desk.fix(0, 1, 0, 7, 0);
        Check.dueChar("nor may point 0 on the right", 'l', desk.reason(0));
        desk.come(1);
        Check.dueChar("but with 70", '-', desk.reason(0));
    }

    private static void fixCentre() {
        Check.promise(4, "centre");
        Check.range("between 0 and 20", 0, 20, ARGUMENT, centre -> onThreePoints().fix(0, 0, 1, centre, 0));
        Check.range("between 20 and 40", 20, 40, ARGUMENT, centre -> onThreePoints().fix(0, 1, 2, centre, 0));
        int[] parts = {0, 5, 10, 95, 100};
        int[] centres = {20, 21, 22, 39, 40};
        for (int i = 0; i < parts.length; i++) {
            Stagecargo desk = onThreePoints();
            Check.due("right part of centre " + centres[i], parts[i], desk.fix(0, 1, 2, centres[i], 0));
            Check.due("left part of centre " + centres[i], 100 - parts[i], desk.loadOn(0, 1));
        }
    }

    private static void fixAngle() {
        Check.promise(4, "angle");
        Check.range("angle", 0, 60, ARGUMENT, angle -> onThreePoints().fix(0, 0, 1, 10, angle));
        int[] angles = {0, 1, 59, 60};
        int[] loads = {50, 51, 80, 80};
        for (int i = 0; i < angles.length; i++) {
            Stagecargo desk = onThreePoints();
            Check.due("the part is that without the angle", 50, desk.fix(0, 0, 1, 10, angles[i]));
            Check.due("left load at angle " + angles[i], loads[i], desk.loadOn(0, 0));
            Check.due("right load at angle " + angles[i], loads[i], desk.loadOn(0, 1));
        }
    }

    private static void fixReturns() {
        Check.promise(4, "Returns");
        Stagecargo desk = Shows.full();
        // weight 100, from place 0 to 48 and from 0 to 60
        Check.due("100 * 1 / 48", 2, desk.fix(0, 0, 6, 1, 60));
        Check.due("100 * 47 / 48", 97, desk.fix(0, 0, 6, 47, 0));
        Check.due("100 * 59 / 60", 98, desk.fix(5, 0, 7, 59, 30));
        Check.due("none", 0, desk.fix(5, 0, 7, 0, 60));
        Check.due("all", 100, desk.fix(5, 0, 7, 60, 60));
    }

    private static Stagecargo onThreePoints() {
        Stagecargo desk = Shows.withPoints();
        desk.addPiece(100, 10, 1, 0);
        return desk;
    }

    // ---- Promise 5

    private static void needDoes() {
        Check.promise(5, "does");
        Stagecargo desk = Shows.lightIn(480, 5, 1440, 5, 5, 5, 5, 5, 5);
        desk.need(0, 1);
        desk.need(0, 2);
        Check.dueChar("0 waits for two", 'n', desk.reason(0));
        Check.dueChar("1 does not need 0", '-', desk.reason(1));
        desk.hang(2);
        Check.dueChar("0 waits for one", 'n', desk.reason(0));
        desk.hang(1);
        Check.dueChar("0 waits for none", '-', desk.reason(0));
        Check.due("a piece that hangs may be needed", 1, desk.need(4, 1));
        desk.takeDown();
        Check.dueChar("0 waits for one again", 'n', desk.reason(0));
        desk.come(0);
        Check.dueChar("and in a town to which the show comes", 'n', desk.reason(0));
    }

    private static void needPieces() {
        Check.promise(5, "piece");
        Check.range("piece", 0, 4, ELEMENT, piece -> fivePieces().need(piece, piece == 0 ? 1 : 0));
        Check.promise(5, "other");
        Check.range("other", 0, 4, ELEMENT, other -> fivePieces().need(other == 0 ? 1 : 0, other));
        for (int other = 1; other < 6; other++) {
            Stagecargo desk = Shows.full();
            desk.come(3);
            desk.need(0, other);
            for (int i = 1; i < 6; i++) {
                if (i != other) {
                    desk.hang(i);
                }
            }
            Check.dueChar("without piece " + other, 'n', desk.reason(0));
            desk.hang(other);
            Check.dueChar("behind piece " + other, '-', desk.reason(0));
        }
    }

    private static Stagecargo fivePieces() {
        return Shows.light(5, 5, 5, 5, 5);
    }

    private static void needReturns() {
        Check.promise(5, "Returns");
        Stagecargo desk = Shows.light(5, 5, 5, 5, 5, 5);
        Check.due("the first need", 1, desk.need(0, 1));
        Check.due("the second one", 2, desk.need(0, 5));
        Check.due("the same one again", 2, desk.need(0, 1));
        Check.due("a needed piece has its own", 1, desk.need(1, 2));
        Check.due("which are not counted for the first", 2, desk.need(0, 5));
        Check.due("the third one", 3, desk.need(0, 3));
        Check.due("the fourth one", 4, desk.need(0, 4));
        Check.due("all five others", 5, desk.need(0, 2));
    }

    private static void needMayBeAShortCut() {
        Check.promise(5, "does");
        Stagecargo desk = Shows.light(5, 5, 5, 5, 5, 5);
        for (int i = 0; i < 5; i++) {
            Check.due("a chain", 1, desk.need(i, i + 1));
        }
        Check.due("from its first to its last piece is no ring", 2, desk.need(0, 5));
        Check.due("and from one to the next but one", 2, desk.need(1, 3));
    }

    // ---- Promise 6

    private static void setArrivalDoes() {
        Check.promise(6, "does");
        Stagecargo desk = Shows.lightIn(480, 5, 1440, 10, 10, 10);
        desk.setArrival(2, 25);
        Check.due("it begins when the truck arrives", 35, desk.hang(2));
        desk.setArrival(0, 50);
        Check.due("a truck of which nothing hangs may be late still", 60, desk.hang(0));
        desk.takeDown();
        desk.setArrival(0, 55);
        Check.due("a piece that was taken down does not hold it", 65, desk.hang(0));
        desk.come(0);
        Check.due("the arrivals stay in another town", 65, desk.hang(0));
        desk.come(0);
        Check.due("nothing hangs behind that", 55, desk.setArrival(0, 0));
    }

    private static void setArrivalTruckAndMinute() {
        Check.promise(6, "truck");
        Check.range("truck", 0, 2, INDEX, truck -> new Stagecargo().setArrival(truck, 0));
        Check.promise(6, "minute");
        Check.range("minute", 0, 1440, ARGUMENT, minute -> new Stagecargo().setArrival(0, minute));
        int[] minutes = {0, 1, 1439, 1440};
        for (int minute : minutes) {
            Stagecargo desk = new Stagecargo();
            desk.setArrival(1, minute);
            Check.due("minute", minute, desk.setArrival(1, 7));
        }
        int[] last = {1434, 1435};
        for (int minute : last) {
            Stagecargo desk = Shows.lightIn(30, 5, 1440, 5);
            desk.setArrival(0, minute);
            Check.due("ends", minute + 5, desk.hang(0));
        }
    }

    private static void setArrivalReturns() {
        Check.promise(6, "Returns");
        Stagecargo desk = new Stagecargo();
        Check.due("the first arrival", 0, desk.setArrival(1, 1440));
        Check.due("the one before", 1440, desk.setArrival(1, 30));
        Check.due("the one before that is the same", 30, desk.setArrival(1, 30));
        Check.due("another truck has its own", 0, desk.setArrival(2, 25));
        Check.due("and so has the first", 0, desk.setArrival(0, 9));
        Check.due("back to 0", 30, desk.setArrival(1, 0));
        Check.due("which was 0", 0, desk.setArrival(1, 0));
    }

    // ---- Promise 7

    private static void addTownDoes() {
        Check.promise(7, "does");
        Stagecargo desk = Shows.light(60, 60);
        desk.addTown(100, 480, 5, 1440);
        Check.thrown("it does not bring the show there", ELEMENT, desk::town);
        desk.come(0);
        Shows.hangAll(desk, 0, 1);
        Check.due("the rates are 0", 0, desk.cost());
        Check.due("the rates are 0, by minutes", 0, desk.costByMinutes());
        desk.addTown(10, 30, 5, 60);
        Check.due("the show stays where it is", 0, desk.town());
        Check.due("and what hangs", 2, desk.hung());
        Check.due("and what points may bear", 5000, desk.mayBear(0));
        Check.due("the rate of the new town is 0", 0, desk.setRates(1, 9, 9, 9));
    }

    private static void addTownAllowance() {
        Check.promise(7, "allowance");
        Check.range("allowance", 10, 100, ARGUMENT, allowance -> new Stagecargo().addTown(allowance, 30, 5, 60));
        int[] allowances = {10, 11, 99, 100};
        for (int i = 0; i < allowances.length; i++) {
            Stagecargo desk = Shows.withPoints();
            desk.addTown(allowances[i], 30, 5, 60);
            desk.come(0);
            Check.due("allowance " + allowances[i], 10 * allowances[i], desk.mayBear(0));
        }
    }

    private static void addTownStretch() {
        Check.promise(7, "stretch");
        Check.range("stretch", 30, 480, ARGUMENT, stretch -> new Stagecargo().addTown(10, stretch, 5, 60));
        Check.dueChar("30 minutes in 30", '-', Shows.lightIn(30, 5, 1440, 30).reason(0));
        Check.dueChar("31 minutes in 30", 's', Shows.lightIn(30, 5, 1440, 31).reason(0));
        Check.dueChar("31 minutes in 31", '-', Shows.lightIn(31, 5, 1440, 31).reason(0));
        Stagecargo whole = Shows.lightIn(480, 5, 1440, 240, 240);
        Shows.hangAll(whole, 0, 1);
        Check.due("480 minutes in 480", 480, whole.end());
        Stagecargo less = Shows.lightIn(479, 5, 1440, 240, 240);
        Shows.hangAll(less, 0, 1);
        Check.due("480 minutes in 479", 485, less.end());
    }

    private static void addTownPause() {
        Check.promise(7, "pause");
        Check.range("pause", 5, 120, ARGUMENT, pause -> new Stagecargo().addTown(10, 30, pause, 60));
        int[] pauses = {5, 6, 119, 120};
        for (int pause : pauses) {
            Stagecargo desk = Shows.lightIn(30, pause, 1440, 30, 10);
            Shows.hangAll(desk, 0, 1);
            Check.due("begins behind a pause", 30 + pause, desk.beginOf(1));
        }
    }

    private static void addTownCurfew() {
        Check.promise(7, "curfew");
        Check.range("curfew", 60, 1440, ARGUMENT, curfew -> new Stagecargo().addTown(10, 30, 5, curfew));
        Check.dueChar("60 minutes till 60", '-', Shows.lightIn(480, 5, 60, 60).reason(0));
        Check.dueChar("61 minutes till 60", 'c', Shows.lightIn(480, 5, 60, 61).reason(0));
        Check.dueChar("61 minutes till 61", '-', Shows.lightIn(480, 5, 61, 61).reason(0));
        int[] curfews = {1439, 1440};
        for (int curfew : curfews) {
            Stagecargo desk = Shows.lightIn(480, 5, curfew, 5);
            desk.setArrival(0, curfew - 5);
            Check.dueChar("just till " + curfew, '-', desk.reason(0));
            desk.setArrival(0, curfew - 4);
            Check.dueChar("a minute behind " + curfew, 'c', desk.reason(0));
        }
    }

    private static void addTownReturns() {
        Check.promise(7, "Returns");
        Stagecargo desk = new Stagecargo();
        for (int i = 0; i < 4; i++) {
            Check.due("number", i, desk.addTown(100 - i, 30, 5, 60));
        }
    }

    // ---- Promise 8

    private static void setRatesDoes() {
        Check.promise(8, "does");
        Stagecargo desk = Shows.lightIn(480, 5, 1440, 60);
        desk.addTown(100, 480, 5, 1440);
        desk.hang(0);
        desk.setRates(0, 3, 40, 7);
        Check.due("the rates count for what hangs", 40 * 3 + 20 * 7, desk.cost());
        desk.setRates(1, 8, 0, 9);
        Check.due("those of another town do not", 40 * 3 + 20 * 7, desk.cost());
        desk.setRates(0, 4, 50, 0);
        Check.due("new ones in place of the old", 50 * 4, desk.cost());
        desk.come(1);
        desk.hang(0);
        Check.due("in the other town its own count", 60 * 9, desk.cost());
        Stagecargo road = Shows.light(60);
        road.addTown(100, 480, 5, 1440);
        road.setRates(0, 1, 1440, 0);
        road.come(0);
        road.hang(0);
        Check.due("set before the show is there", 60, road.cost());
    }

    private static void setRatesTown() {
        Check.promise(8, "town");
        Check.range("town of four", 0, 3, ELEMENT, town -> Shows.full().setRates(town, 1, 1, 1));
        Check.thrownBeyond("town of one", 0, 0, ELEMENT, town -> Shows.oneHung().setRates(town, 1, 1, 1));
    }

    private static void setRatesRanges() {
        Check.promise(8, "rate");
        Check.range("rate", 0, 99, ARGUMENT, rate -> Shows.oneHung().setRates(0, rate, 0, 0));
        Check.due("99 a minute", 40 * 99, costWith(99, 1440, 0));
        Check.due("98 a minute", 40 * 98, costWith(98, 1440, 0));
        Check.due("1 a minute", 40, costWith(1, 1440, 99));
        Check.due("nothing a minute", 0, costWith(0, 1440, 99));
        Check.promise(8, "overtime");
        Check.range("overtime", 0, 1440, ARGUMENT, overtime -> Shows.oneHung().setRates(0, 0, overtime, 0));
        Check.due("overtime from the first minute on", 40 * 5, costWith(1, 0, 5));
        Check.due("overtime from the second minute on", 1 + 39 * 5, costWith(1, 1, 5));
        Check.due("no overtime before 1440", 40, costWith(1, 1440, 5));
        Check.promise(8, "overtimeRate");
        Check.range("overtime rate", 0, 99, ARGUMENT, rate -> Shows.oneHung().setRates(0, 0, 0, rate));
        Check.due("99 a minute of overtime", 40 * 99, costWith(0, 0, 99));
        Check.due("98 a minute of overtime", 40 * 98, costWith(0, 0, 98));
        Check.due("1 a minute of overtime", 40, costWith(99, 0, 1));
        Check.due("nothing a minute of overtime", 0, costWith(99, 0, 0));
    }

    /** The cost of the minutes 0 to 39. */
    private static long costWith(int rate, int overtime, int overtimeRate) {
        Stagecargo desk = Shows.oneHung();
        desk.setRates(0, rate, overtime, overtimeRate);
        Check.due("by minutes the same", desk.cost(), desk.costByMinutes());
        return desk.cost();
    }

    private static void setRatesReturns() {
        Check.promise(8, "Returns");
        Stagecargo desk = Shows.full();
        Check.due("the first rate was 0", 0, desk.setRates(0, 99, 7, 8));
        Check.due("the rate before, not the overtime rate", 99, desk.setRates(0, 0, 5, 6));
        Check.due("that was 0", 0, desk.setRates(0, 4, 3, 2));
        Check.due("another town has its own", 0, desk.setRates(1, 5, 3, 2));
        Check.due("the last one", 2, desk.setRates(3, 5, 3, 2));
        Check.due("and the first again", 4, desk.setRates(0, 4, 3, 2));
    }

    // ---- Promise 9

    private static void comeDoes() {
        Check.promise(9, "does");
        Stagecargo desk = Shows.busy();
        desk.come(0);
        Check.due("it is there", 0, desk.town());
        nothingHangs(desk);
        Check.due("what points may bear is new", 900, desk.mayBear(0));
        Check.dueChar("the needs stay", 'n', desk.reason(1));
        Check.dueChar("the pieces are free", '-', desk.reason(0));
        Check.due("the fixings stay", 675, desk.loadOn(0, 0));
        Check.due("the first piece begins at minute 0", 60, desk.hang(0));
        Check.due("the cost is that of this town", 10 * 9 + 50 * 8, desk.cost());
        Check.due("the trucks are free, and their arrivals stay", 70, desk.setArrival(1, 0));
    }

    private static void comeToTheSameTown() {
        Check.promise(9, "does");
        Stagecargo desk = Shows.busy();
        desk.come(1);
        Check.due("it is there still", 1, desk.town());
        nothingHangs(desk);
        Check.due("and begins anew", 60, desk.hang(0));
        Check.due("with the work, too", 60, desk.work());
        Check.due("and the worth", 10 + 8 + 5, desk.bestWorth());
    }

    private static void nothingHangs(Stagecargo desk) {
        Check.due("nothing hangs", 0, desk.hung());
        Check.due("it is minute 0", 0, desk.end());
        Check.due("no work", 0, desk.work());
        Check.due("no cost", 0, desk.cost());
        for (int point = 0; point < 4; point++) {
            Check.due("point " + point + " bears nothing", 0, desk.bears(point));
        }
        Check.thrown("there is nothing to be taken down", STATE, desk::takeDown);
        Check.thrown("nor to be told of", INDEX, () -> desk.hungAt(0));
        Check.thrown("nor of its begin", ELEMENT, () -> desk.beginOf(0));
    }

    private static void comeTown() {
        Check.promise(9, "town");
        Check.range("town of four", 0, 3, ELEMENT, town -> Shows.full().come(town));
        Check.thrownBeyond("town of one", 0, 0, ELEMENT, town -> Shows.oneHung().come(town));
        for (int town = 0; town < 4; town++) {
            Stagecargo desk = Shows.full();
            desk.come(town);
            Check.due("is the one", town, desk.town());
        }
    }

    private static void comeReturns() {
        Check.promise(9, "Returns");
        Stagecargo desk = Shows.full();
        Check.due("for the first time", 0, desk.come(3));
        Check.due("none was hung", 0, desk.come(3));
        desk.complete();
        Check.due("all were hung", 6, desk.come(3));
        Check.due("none was hung again", 0, desk.come(3));
        desk.hang(4);
        Check.due("one was hung", 1, desk.come(0));
    }
}
