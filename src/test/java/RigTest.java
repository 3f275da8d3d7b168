import java.util.NoSuchElementException;

/** Promises 10 to 23, part by part: towns and loads, the rig that is hung and what it costs. */
public final class RigTest {
    private static final Class<? extends RuntimeException> STATE = IllegalStateException.class;
    private static final Class<? extends RuntimeException> INDEX = IndexOutOfBoundsException.class;
    private static final Class<? extends RuntimeException> ELEMENT = NoSuchElementException.class;

    public static void main(String[] args) {
        town();
        loadOnDoes();
        loadOnRanges();
        loadOnReturns();
        mayBearDoes();
        mayBearPoint();
        mayBearReturns();
        bearsDoes();
        bearsPoint();
        bearsReturns();
        reasonDoes();
        reasonPiece();
        reasonReturns();
        hangDoes();
        hangPiece();
        hangReturns();
        takeDownDoes();
        takeDownBehindPausesAndWaits();
        takeDownReturns();
        hung();
        hungAtDoes();
        hungAtIndex();
        beginOfDoes();
        beginOfPiece();
        endOfTheRig();
        workAtTheEnd();
        cost();
        costOverGaps();
        dearestNight();
        Check.finish("RigTest");
    }

    // ---- Promise 10

    private static void town() {
        Check.promise(10, "does");
        Stagecargo desk = Shows.full();
        Check.thrown("in none", ELEMENT, desk::town);
        desk.come(1);
        Check.due("in town 1", 1, desk.town());
        desk.come(0);
        Check.due("in town 0", 0, desk.town());
        Check.promise(10, "Returns");
        desk.come(3);
        Check.due("the last one", 3, desk.town());
        desk.complete();
        Check.due("with a rig the same", 3, desk.town());
        desk.takeDown();
        Check.due("and without it", 3, desk.town());
        Check.thrown("a town that is not there", ELEMENT, () -> desk.come(4));
        Check.due("leaves it where it is", 3, desk.town());
    }

    // ---- Promise 11

    private static void loadOnDoes() {
        Check.promise(11, "does");
        Stagecargo desk = Shows.busy();
        Check.due("a piece that hangs", 675, desk.loadOn(0, 0));
        Check.due("its right point", 225, desk.loadOn(0, 1));
        Check.due("another one that hangs, not the sum", 450, desk.loadOn(1, 1));
        Check.due("a piece that does not hang", 50, desk.loadOn(2, 0));
        desk.takeDown();
        Check.due("the same when taken down", 450, desk.loadOn(1, 1));
        Check.due("the same in no town", 675, Shows.onTheRoad().loadOn(0, 0));
        desk.come(0);
        Check.due("the same in another town", 675, desk.loadOn(0, 0));
    }

    private static void loadOnRanges() {
        Check.promise(11, "piece");
        Check.range("piece of six", 0, 5, ELEMENT, piece -> Shows.full().loadOn(piece, 0));
        Check.thrownBeyond("piece of one", 0, 0, ELEMENT, piece -> Shows.light(5).loadOn(piece, 0));
        Check.promise(11, "point");
        Check.range("point of eight", 0, 7, INDEX, point -> Shows.full().loadOn(0, point));
        Check.thrownBeyond("point of two", 0, 1, INDEX, point -> Shows.light(5).loadOn(0, point));
    }

    private static void loadOnReturns() {
        Check.promise(11, "Returns");
        Stagecargo desk = Shows.busy();
        Check.due("elsewhere", 0, desk.loadOn(0, 2));
        Check.due("at the place of a point of its fixing", 0, desk.loadOn(0, 3));
        for (int point = 0; point < 4; point++) {
            Check.due("without a fixing", 0, desk.loadOn(3, point));
        }
        Stagecargo full = Shows.full();
        Check.due("a part of 0 is a load of 0", 0, full.loadOn(5, 6));
        Check.due("the last piece on the last point", 160, full.loadOn(5, 7));
        Check.due("the first piece there", 0, full.loadOn(0, 7));
    }

    // ---- Promise 12

    private static void mayBearDoes() {
        Check.promise(12, "does");
        Stagecargo desk = Shows.busy();
        Check.due("the limit in a town that allows it", 1000, desk.mayBear(0));
        Check.due("also of a point that bears something", 800, desk.mayBear(1));
        desk.come(0);
        Check.due("less in another town", 900, desk.mayBear(0));
        desk.addPoint(3, 101);
        Check.due("a point that came later", 90, desk.mayBear(4));
    }

    private static void mayBearPoint() {
        Check.promise(12, "point");
        Check.range("point of eight", 0, 7, INDEX, point -> Shows.fullAndHung().mayBear(point));
        Check.thrownBeyond("point of four", 0, 3, INDEX, point -> Shows.busy().mayBear(point));
    }

    private static void mayBearReturns() {
        Check.promise(12, "Returns");
        // limit, allowance, and the hundredth of their product, rounded down
        int[][] cases = {{100, 10, 10}, {100, 100, 100}, {101, 99, 99}, {109, 10, 10}, {110, 10, 11}, {199, 50, 99},
                {4999, 99, 4949}, {5000, 100, 5000}, {5000, 10, 500}};
        for (int[] c : cases) {
            Stagecargo desk = new Stagecargo();
            desk.addPoint(0, c[0]);
            desk.addTown(c[1], 30, 5, 60);
            desk.come(0);
            Check.due(c[1] + " of 100 of " + c[0], c[2], desk.mayBear(0));
        }
    }

    // ---- Promise 13

    private static void bearsDoes() {
        Check.promise(13, "does");
        Stagecargo road = Shows.onTheRoad();
        Check.due("in no town", 0, road.bears(0));
        road.come(1);
        Check.due("nothing hangs", 0, road.bears(0));
        Stagecargo desk = Shows.busy();
        Check.due("the point of the first", 675, desk.bears(0));
        Check.due("the point of both", 225 + 450, desk.bears(1));
        Check.due("the point of the second", 450, desk.bears(2));
        Check.due("a point of none at the same place", 0, desk.bears(3));
        desk.takeDown();
        Check.due("the point of both again", 225, desk.bears(1));
        Check.due("the point of the second again", 0, desk.bears(2));
    }

    private static void bearsPoint() {
        Check.promise(13, "point");
        Check.range("point of eight", 0, 7, INDEX, point -> Shows.fullAndHung().bears(point));
        Check.thrownBeyond("point of four", 0, 3, INDEX, point -> Shows.busy().bears(point));
    }

    private static void bearsReturns() {
        Check.promise(13, "Returns");
        Stagecargo desk = Shows.lightIn(480, 5, 1440, 5, 5, 5, 5, 5, 5);
        for (int i = 0; i < 6; i++) {
            desk.fix(i, 0, 1, 1, 1);
        }
        for (int i = 0; i < 6; i++) {
            Check.due("left point of " + i, 10 * i, desk.bears(0));
            Check.due("right point of " + i, 2 * i, desk.bears(1));
            desk.hang(i);
        }
        // The parts are 9 and 1; each load is rounded up by itself: 9.09 and 1.01.
        Check.due("left point of all six", 60, desk.bears(0));
        Check.due("right point of all six", 12, desk.bears(1));
    }

    // ---- Promise 14

    private static void reasonDoes() {
        Check.promise(14, "does");
        Stagecargo desk = Shows.busy();
        Check.dueChar("a piece that may come next", '-', desk.reason(2));
        Check.dueChar("asking does not hang it", '-', desk.reason(2));
        Check.due("two hang", 2, desk.hung());
        Check.dueChar("a piece that hangs", 'h', desk.reason(0));
        desk.takeDown();
        Check.dueChar("a piece that hangs no longer", '-', desk.reason(1));
        Check.dueChar("and what needs it", 'n', desk.reason(2));
    }

    private static void reasonPiece() {
        Check.promise(14, "piece");
        Check.range("piece of six", 0, 5, ELEMENT, piece -> Shows.full().reason(piece));
        Check.range("piece of six that hang", 0, 5, ELEMENT, piece -> Shows.fullAndHung().reason(piece));
        Check.thrownBeyond("piece of one", 0, 0, ELEMENT, piece -> Shows.light(5).reason(piece));
    }

    /** One reason after the other is taken away from a piece to which all others apply. */
    private static void reasonReturns() {
        Check.promise(14, "Returns");
        Stagecargo desk = new Stagecargo();
        desk.addPoint(0, 100);
        desk.addPoint(10, 100);
        desk.addPoint(20, 5000);
        desk.addPoint(30, 5000);
        desk.addPiece(1000, 70, 1, 0);
        desk.addPiece(10, 10, 1, 1);
        desk.need(0, 1);
        desk.fix(1, 0, 1, 5, 0);
        Check.dueChar("all apply", 't', desk.reason(0));
        Check.dueChar("no town for another one", 't', desk.reason(1));
        desk.addTown(100, 60, 5, 60);
        desk.addTown(100, 70, 5, 79);
        desk.addTown(100, 90, 5, 80);
        desk.come(0);
        Check.dueChar("has no fixing", 'f', desk.reason(0));
        desk.fix(0, 0, 1, 5, 0);
        Check.dueChar("needs another one", 'n', desk.reason(0));
        desk.hang(1);
        Check.dueChar("is longer than the stretch", 's', desk.reason(0));
        desk.come(1);
        desk.hang(1);
        Check.dueChar("is too heavy", 'l', desk.reason(0));
        desk.fix(0, 2, 3, 25, 0);
        Check.dueChar("ends too late", 'c', desk.reason(0));
        desk.come(2);
        desk.hang(1);
        Check.dueChar("may be hung", '-', desk.reason(0));
        desk.hang(0);
        Check.dueChar("is hung, though it would be too late", 'h', desk.reason(0));
        Stagecargo heavy = Shows.lightIn(480, 5, 1440, 10);
        heavy.addPoint(20, 100);
        heavy.addPiece(100, 10, 1, 0);
        heavy.fix(1, 1, 2, 20, 0);
        heavy.hang(1);
        Check.dueChar("is hung, though it would be too heavy", 'h', heavy.reason(1));
    }

    // ---- Promise 15

    private static void hangDoes() {
        Check.promise(15, "does");
        Stagecargo desk = Shows.onTheRoad();
        desk.come(1);
        desk.hang(0);
        Check.due("one hangs", 1, desk.hung());
        Check.due("this one", 0, desk.hungAt(0));
        Check.dueChar("as its reason says", 'h', desk.reason(0));
        Check.due("its point bears it", 675, desk.bears(0));
        desk.hang(1);
        Check.due("the next one hangs behind it", 1, desk.hungAt(1));
        Check.due("which stays the first", 0, desk.hungAt(0));
        Check.due("and loads, too", 675, desk.bears(1));
        desk.hang(2);
        Check.due("three hang", 3, desk.hung());
        Check.due("and the worth is that of all", 23, desk.bestWorth());
    }

    private static void hangPiece() {
        Check.promise(15, "piece");
        Check.range("piece of six", 0, 5, ELEMENT, piece -> fullInTown().hang(piece));
        Check.thrownBeyond("piece of three", 0, 2, ELEMENT, piece -> Shows.oneHung().hang(piece));
    }

    private static void hangReturns() {
        Check.promise(15, "Returns");
        Stagecargo desk = Shows.lightIn(100, 15, 1440, 60, 40, 41, 100, 5, 95);
        desk.setArrival(0, 7);
        Check.due("behind the truck", 67, desk.hang(0));
        Check.due("behind the one before", 67 + 40, desk.hang(1));
        Check.due("behind a pause", 107 + 15 + 41, desk.hang(2));
        Check.due("behind another one", 163 + 15 + 100, desk.hang(3));
        Check.due("and so on", 278 + 15 + 5, desk.hang(4));
        Check.due("and without a pause", 298 + 95, desk.hang(5));
        Check.due("which is the end", 393, desk.end());
    }

    private static Stagecargo fullInTown() {
        Stagecargo desk = Shows.full();
        desk.come(3);
        return desk;
    }

    // ---- Promise 16

    private static void takeDownDoes() {
        Check.promise(16, "does");
        int[] order = {5, 1, 3, 0, 4, 2};
        for (int hung = 0; hung < 6; hung++) {
            Stagecargo before = fullInTown();
            Stagecargo desk = fullInTown();
            for (int i = 0; i < hung; i++) {
                before.hang(order[i]);
                desk.hang(order[i]);
            }
            desk.hang(order[hung]);
            desk.takeDown();
            Check.dueText("all is as it was with " + hung, Probe.of(before), Probe.of(desk));
        }
    }

    private static void takeDownBehindPausesAndWaits() {
        Check.promise(16, "does");
        Stagecargo desk = Shows.lightIn(100, 15, 1440, 60, 50, 40);
        desk.setArrival(2, 200);
        desk.setRates(0, 3, 70, 4);
        desk.hang(0);
        String one = Snapshot.of(desk);
        desk.hang(1);
        String two = Snapshot.of(desk);
        desk.hang(2);
        desk.takeDown();
        Check.dueText("a wait is gone", two, Snapshot.of(desk));
        desk.takeDown();
        Check.dueText("a pause is gone", one, Snapshot.of(desk));
        Check.due("the truck is free", 0, desk.setArrival(1, 0));
        Check.due("the needs are, too", 1, desk.need(1, 2));
        Check.due("what was hung at last hangs as before", 240, desk.hang(2));
    }

    private static void takeDownReturns() {
        Check.promise(16, "Returns");
        Stagecargo desk = Shows.fullAndHung();
        for (int i = 0; i < 6; i++) {
            Check.due("the last one", i, desk.takeDown());
        }
        Check.thrown("there is no more", STATE, desk::takeDown);
        desk.complete();
        Check.due("the last one of a completion", 5, desk.takeDown());
    }

    // ---- Promises 17 to 19

    private static void hung() {
        Check.promise(17, "does");
        Stagecargo desk = fullInTown();
        for (int i = 0; i < 6; i++) {
            Check.due("so many", i, desk.hung());
            desk.hang(i);
        }
        Check.promise(17, "Returns");
        Check.due("all", 6, desk.hung());
        desk.takeDown();
        Check.due("one less", 5, desk.hung());
        desk.come(3);
        Check.due("none", 0, desk.hung());
        Check.due("all of a completion", desk.complete(), desk.hung());
        Check.due("none in no town", 0, Shows.full().hung());
    }

    private static void hungAtDoes() {
        Check.promise(18, "does");
        Stagecargo desk = fullInTown();
        Shows.hangAll(desk, 2, 0, 5);
        Check.due("the first", 2, desk.hungAt(0));
        Check.due("the second", 0, desk.hungAt(1));
        Check.due("the third", 5, desk.hungAt(2));
        desk.takeDown();
        desk.hang(4);
        Check.promise(18, "Returns");
        Check.due("the third is another one", 4, desk.hungAt(2));
        Stagecargo all = Shows.fullAndHung();
        for (int i = 0; i < 6; i++) {
            Check.due("of all", 5 - i, all.hungAt(i));
        }
    }

    private static void hungAtIndex() {
        Check.promise(18, "index");
        Check.range("index of six", 0, 5, INDEX, index -> Shows.fullAndHung().hungAt(index));
        Check.range("index of two", 0, 1, INDEX, index -> Shows.busy().hungAt(index));
        Check.thrownBeyond("index of one", 0, 0, INDEX, index -> Shows.oneHung().hungAt(index));
        Stagecargo desk = Shows.busy();
        desk.takeDown();
        Check.thrown("one that was taken down", INDEX, () -> desk.hungAt(1));
    }

    private static void beginOfDoes() {
        Check.promise(19, "does");
        Stagecargo desk = Shows.lightIn(100, 15, 1440, 60, 50, 40);
        desk.setArrival(2, 20);
        Shows.hangAll(desk, 2, 0, 1);
        Check.due("behind its truck", 20, desk.beginOf(2));
        Check.due("behind the one before", 60, desk.beginOf(0));
        Check.promise(19, "Returns");
        Check.due("behind a pause", 120 + 15, desk.beginOf(1));
        desk.takeDown();
        Check.due("the last one that hangs", 60, desk.beginOf(0));
        Check.thrown("the one that was taken down", ELEMENT, () -> desk.beginOf(1));
        Stagecargo first = fullInTown();
        first.hang(3);
        Check.due("the first one", 0, first.beginOf(3));
    }

    private static void beginOfPiece() {
        Check.promise(19, "piece");
        Check.range("piece of six", 0, 5, ELEMENT, piece -> Shows.fullAndHung().beginOf(piece));
        Check.range("piece of two that hang", 0, 1, ELEMENT, piece -> Shows.busy().beginOf(piece));
        for (int piece = 0; piece < 6; piece++) {
            int number = piece;
            Check.thrown("nothing hangs", ELEMENT, () -> fullInTown().beginOf(number));
        }
    }

    // ---- Promises 20 and 21

    private static void endOfTheRig() {
        Check.promise(20, "does");
        Stagecargo desk = Shows.lightIn(100, 15, 1440, 60, 50, 40);
        Check.due("of none", 0, desk.end());
        desk.setArrival(0, 33);
        Check.due("of none behind a truck", 0, desk.end());
        desk.hang(0);
        Check.due("of one behind a truck", 93, desk.end());
        Check.promise(20, "Returns");
        desk.hang(2);
        Check.due("of two", 133, desk.end());
        desk.hang(1);
        Check.due("of three with a pause", 198, desk.end());
        desk.takeDown();
        Check.due("of two again", 133, desk.end());
        Check.due("in no town", 0, Shows.full().end());
    }

    private static void workAtTheEnd() {
        Check.promise(21, "does");
        Stagecargo desk = Shows.lightIn(100, 15, 1440, 60, 50, 40, 10);
        desk.setArrival(0, 33);
        desk.hang(0);
        Check.due("behind a truck", 60, desk.work());
        desk.hang(2);
        Check.due("of two", 100, desk.work());
        desk.hang(1);
        Check.due("behind a pause", 50, desk.work());
        desk.hang(3);
        Check.due("of two behind a pause", 60, desk.work());
        desk.takeDown();
        desk.takeDown();
        Check.due("of two again", 100, desk.work());
        Check.promise(21, "Returns");
        Check.due("nothing hangs", 0, Shows.lightIn(100, 15, 1440, 60).work());
        Check.due("in no town", 0, Shows.full().work());
        desk.takeDown();
        desk.takeDown();
        Check.due("nothing hangs any more", 0, desk.work());
        Check.due("the whole of six", 210, Shows.fullAndHung().work());
    }

    // ---- Promises 22 and 23

    private static void dueCost(String what, long due, Stagecargo desk) {
        Check.promise(22, "Returns");
        Check.due(what, due, desk.cost());
        Check.promise(23, "Returns");
        Check.due(what, due, desk.costByMinutes());
    }

    private static void cost() {
        Check.promise(22, "does");
        Check.due("found piece by piece", 530, Shows.fullAndHung().cost());
        Check.promise(23, "does");
        Check.due("found minute by minute", 530, Shows.fullAndHung().costByMinutes());
        dueCost("in no town", 0, Shows.full());
        Stagecargo desk = Shows.lightIn(480, 5, 1440, 60);
        dueCost("of nothing", 0, desk);
        desk.setRates(0, 2, 5, 3);
        dueCost("of nothing with rates", 0, desk);
        desk.setArrival(0, 100);
        desk.hang(0);
        int[][] cases = {{0, 180}, {99, 180}, {100, 180}, {101, 179}, {159, 121}, {160, 120}, {161, 120}, {1440, 120}};
        for (int[] c : cases) {
            desk.setRates(0, 2, c[0], 3);
            dueCost("with overtime " + c[0], c[1], desk);
        }
        desk.takeDown();
        dueCost("of nothing again", 0, desk);
    }

    private static void costOverGaps() {
        Stagecargo desk = Shows.lightIn(100, 20, 1440, 60, 50, 30);
        desk.setArrival(2, 200);
        Shows.hangAll(desk, 0, 1, 2);
        Check.due("begins behind a pause", 80, desk.beginOf(1));
        Check.due("begins behind a wait", 200, desk.beginOf(2));
        int[][] cases = {{60, 60 + 80 * 10}, {70, 60 + 80 * 10}, {80, 60 + 80 * 10}, {81, 61 + 79 * 10},
                {130, 110 + 300}, {200, 110 + 300}, {201, 111 + 290}, {229, 139 + 10}, {230, 140}};
        for (int[] c : cases) {
            desk.setRates(0, 1, c[0], 10);
            dueCost("over gaps with overtime " + c[0], c[1], desk);
        }
    }

    private static void dearestNight() {
        Stagecargo desk = Shows.lightIn(480, 5, 1440, 240, 240, 240, 240, 240, 230);
        desk.setRates(0, 98, 700, 99);
        Check.due("all pieces of a long night", 6, desk.complete());
        Check.due("with their pauses till the curfew", 1440, desk.end());
        dueCost("of 1430 minutes, 695 before the overtime", 1430 * 99 - 695, desk);
    }
}
