import java.util.NoSuchElementException;

/** Promises 10 to 23: towns and loads, reasons, the rig that is hung and what it costs. */
public final class RigTest {
    private static final int[] FAR = {Integer.MIN_VALUE, -1, Integer.MAX_VALUE};

    public static void main(String[] args) {
        town();
        loadOn();
        mayBear();
        bears();
        reasonsInOrder();
        reasonEdges();
        hangRefuses();
        hangInStretches();
        hangBehindTrucks();
        takeDown();
        hungAndHungAt();
        beginOf();
        endAndWork();
        costs();
        costsOverGaps();
        Check.finish("RigTest");
    }

    private static void town() {
        Stagecargo desk = Shows.withPoints();
        desk.addTown(100, 30, 5, 60);
        desk.addTown(50, 30, 5, 60);
        Check.thrown("in no town", NoSuchElementException.class, desk::town);
        desk.come(1);
        Check.due("in town 1", 1, desk.town());
        desk.come(0);
        Check.due("in town 0", 0, desk.town());
        desk.addTown(50, 30, 5, 60);
        Check.due("still in town 0", 0, desk.town());
    }

    private static void loadOn() {
        Stagecargo desk = Shows.withPoints();
        desk.addPiece(900, 60, 10, 0);
        Check.due("without a fixing", 0, desk.loadOn(0, 0));
        desk.fix(0, 0, 1, 5, 0);
        Check.due("left", 675, desk.loadOn(0, 0));
        Check.due("right", 225, desk.loadOn(0, 1));
        Check.due("elsewhere", 0, desk.loadOn(0, 2));
        Check.thrown("no piece", NoSuchElementException.class, () -> desk.loadOn(1, 0));
        Check.thrown("no piece before no point", NoSuchElementException.class, () -> desk.loadOn(1, 3));
        Check.thrown("no point", IndexOutOfBoundsException.class, () -> desk.loadOn(0, 3));
        for (int far : FAR) {
            Check.thrown("far piece", NoSuchElementException.class, () -> desk.loadOn(far, 0));
            Check.thrown("far point", IndexOutOfBoundsException.class, () -> desk.loadOn(0, far));
        }
        desk.addTown(100, 60, 5, 60);
        desk.come(0);
        desk.hang(0);
        Check.due("the same when it hangs", 675, desk.loadOn(0, 0));
    }

    private static void mayBear() {
        Stagecargo desk = Shows.withPoints();
        desk.addPoint(50, 101);
        Check.thrown("in no town", IllegalStateException.class, () -> desk.mayBear(0));
        Check.thrown("no point before no town", IndexOutOfBoundsException.class, () -> desk.mayBear(4));
        desk.addTown(99, 30, 5, 60);
        desk.come(0);
        Check.due("99 of 100 of 1000", 990, desk.mayBear(0));
        Check.due("99 of 100 of 800", 792, desk.mayBear(1));
        Check.due("99.99 is rounded down", 99, desk.mayBear(3));
        Check.thrown("no point", IndexOutOfBoundsException.class, () -> desk.mayBear(4));
        for (int far : FAR) {
            Check.thrown("far point", IndexOutOfBoundsException.class, () -> desk.mayBear(far));
        }
    }

    private static void bears() {
        Stagecargo desk = Shows.withPoints();
        desk.addPiece(100, 10, 1, 0);
        desk.addPiece(101, 10, 1, 0);
        desk.fix(0, 0, 1, 5, 10);
        desk.fix(1, 1, 2, 30, 0);
        desk.addTown(100, 480, 5, 1440);
        Check.due("in no town", 0, desk.bears(0));
        desk.come(0);
        Check.due("nothing hangs", 0, desk.bears(1));
        desk.hang(0);
        Check.due("75 * 1.1 rounded up", 83, desk.bears(0));
        Check.due("25 * 1.1 rounded up", 28, desk.bears(1));
        desk.hang(1);
        Check.due("the left point", 83, desk.bears(0));
        Check.due("the point of both", 28 + 51, desk.bears(1));
        Check.due("the right point", 50, desk.bears(2));
        desk.takeDown();
        Check.due("only the first again", 28, desk.bears(1));
        Check.due("nothing again", 0, desk.bears(2));
        Check.thrown("no point", IndexOutOfBoundsException.class, () -> desk.bears(3));
        for (int far : FAR) {
            Check.thrown("far point", IndexOutOfBoundsException.class, () -> desk.bears(far));
        }
    }

    /** One reason after the other is taken away from a piece to which all apply. */
    private static void reasonsInOrder() {
        Stagecargo desk = new Stagecargo();
        desk.addPoint(0, 100);
        desk.addPoint(10, 100);
        desk.addPoint(20, 5000);
        desk.addPoint(30, 5000);
        desk.addPiece(1000, 70, 1, 0);
        desk.addPiece(10, 10, 1, 1);
        desk.need(0, 1);
        desk.fix(1, 0, 1, 5, 0);
        Check.dueChar("all apply", 't', desk.reason(0));
        Check.dueChar("no town for another one", 't', desk.reason(1));
        Check.thrown("no piece before no town", NoSuchElementException.class, () -> desk.reason(2));
        desk.addTown(100, 60, 5, 60);
        desk.addTown(100, 70, 5, 79);
        desk.addTown(100, 90, 5, 80);
        desk.come(0);
        Check.dueChar("unfixed", 'f', desk.reason(0));
        desk.fix(0, 0, 1, 5, 0);
        Check.dueChar("needs another one", 'n', desk.reason(0));
        desk.hang(1);
        Check.dueChar("is longer than the stretch", 's', desk.reason(0));
        desk.come(1);
        desk.hang(1);
        Check.dueChar("is too heavy", 'l', desk.reason(0));
        desk.fix(0, 2, 3, 25, 0);
        Check.dueChar("ends too late", 'c', desk.reason(0));
        desk.come(2);
        desk.hang(1);
        Check.dueChar("may be hung", '-', desk.reason(0));
        Check.dueChar("is hung", 'h', desk.reason(1));
        desk.hang(0);
        Check.dueChar("is hung, though it would be too late", 'h', desk.reason(0));
        for (int far : FAR) {
            Check.thrown("far piece", NoSuchElementException.class, () -> desk.reason(far));
        }
    }

    private static void reasonEdges() {
        Stagecargo desk = Shows.withPoints();
        desk.addPiece(1600, 60, 1, 0);
        desk.fix(0, 0, 1, 10, 0);
        desk.addTown(100, 60, 5, 60);
        desk.addTown(99, 60, 5, 60);
        desk.addTown(100, 59, 5, 60);
        desk.come(0);
        Check.dueChar("800 on a point for 800, 60 minutes of 60", '-', desk.reason(0));
        desk.come(1);
        Check.dueChar("800 on a point for 792", 'l', desk.reason(0));
        desk.come(2);
        Check.dueChar("60 minutes in a stretch of 59", 's', desk.reason(0));
        desk.come(0);
        desk.setArrival(0, 1);
        Check.dueChar("ends one minute too late", 'c', desk.reason(0));
        desk.setArrival(0, 0);
        desk.fix(0, 1, 2, 20, 0);
        Check.dueChar("too heavy for the left point", 'l', desk.reason(0));
        desk.fix(0, 0, 2, 20, 0);
        Check.dueChar("too heavy for the right point", 'l', desk.reason(0));
        desk.addPiece(10, 5, 1, 0);
        desk.fix(1, 0, 1, 0, 0);
        desk.fix(0, 0, 1, 10, 0);
        desk.hang(0);
        Check.dueChar("10 more for a point with 200 left, but too late", 'c', desk.reason(1));
        desk.takeDown();
        desk.hang(1);
        Check.dueChar("as heavy as may be, but too late", 'c', desk.reason(0));
        desk.takeDown();
        desk.fix(1, 0, 1, 20, 0);
        desk.hang(1);
        Check.dueChar("10 more than may be", 'l', desk.reason(0));
    }

    private static void hangRefuses() {
        Stagecargo desk = Shows.light(10);
        Check.refused(desk, "hang in no town", IllegalStateException.class, () -> desk.hang(0));
        Check.thrown("no piece before no town", NoSuchElementException.class, () -> desk.hang(1));
        Stagecargo hung = Shows.oneHung();
        Check.refused(hung, "hang twice", IllegalStateException.class, () -> hung.hang(0));
        Check.thrown("no piece 3", NoSuchElementException.class, () -> hung.hang(3));
        for (int far : FAR) {
            Check.thrown("far piece", NoSuchElementException.class, () -> hung.hang(far));
        }
        Stagecargo waiting = Shows.oneHung();
        waiting.takeDown();
        Check.refused(waiting, "hang without what it needs", IllegalStateException.class, () -> waiting.hang(1));
        Stagecargo loose = Shows.oneHung();
        loose.addPiece(10, 10, 1, 0);
        Check.thrown("hang without a fixing", IllegalStateException.class, () -> loose.hang(3));
        Stagecargo heavy = Shows.oneHung();
        heavy.addPoint(20, 100);
        heavy.addPiece(101, 10, 1, 0);
        heavy.fix(3, 1, 2, 20, 0);
        Check.refused(heavy, "hang too much", IllegalStateException.class, () -> heavy.hang(3));
        Stagecargo late = Shows.lightIn(60, 5, 60, 30, 31);
        late.hang(0);
        Check.refused(late, "hang too late", IllegalStateException.class, () -> late.hang(1));
        Stagecargo lengthy = Shows.lightIn(60, 5, 1440, 61);
        Check.thrown("hang what is longer than the stretch", IllegalStateException.class, () -> lengthy.hang(0));
    }

    private static void hangInStretches() {
        Stagecargo desk = Shows.lightIn(100, 15, 1440, 60, 40, 41, 100, 5, 95);
        Check.due("the first piece ends", 60, desk.hang(0));
        Check.due("as much as the stretch has needs no pause", 100, desk.hang(1));
        Check.due("work of both", 100, desk.work());
        Check.due("more needs a pause", 100 + 15 + 41, desk.hang(2));
        Check.due("it begins behind the pause", 115, desk.beginOf(2));
        Check.due("the work begins anew with it", 41, desk.work());
        Check.due("a whole stretch needs a pause, too", 156 + 15 + 100, desk.hang(3));
        Check.due("work of the whole stretch", 100, desk.work());
        Check.due("and so does what follows", 271 + 15 + 5, desk.hang(4));
        Check.due("which leaves room for 95", 291 + 95, desk.hang(5));
        Check.due("work at the end", 100, desk.work());
    }

    private static void hangBehindTrucks() {
        Stagecargo desk = Shows.lightIn(100, 15, 1440, 60, 30, 50);
        desk.setArrival(0, 7);
        desk.setArrival(1, 67 + 14);
        Check.due("the first one waits for its truck", 67, desk.hang(0));
        Check.due("work without the waiting", 60, desk.work());
        Check.due("14 minutes of waiting", 81 + 30, desk.hang(1));
        Check.due("are no break", 90, desk.work());
        desk.takeDown();
        desk.setArrival(1, 67 + 15);
        Check.due("15 minutes of waiting", 82 + 30, desk.hang(1));
        Check.due("are a break", 30, desk.work());
        desk.takeDown();
        desk.setArrival(2, 67 + 14);
        Check.due("a pause comes behind a wait that is no break", 81 + 15 + 50, desk.hang(2));
        Check.due("it begins behind both", 96, desk.beginOf(2));
        Check.due("and the work anew", 50, desk.work());
        desk.takeDown();
        desk.setArrival(2, 67 + 15);
        Check.due("a wait that is a break spares the pause", 82 + 50, desk.hang(2));
        Check.due("the work is its own", 50, desk.work());
        desk.takeDown();
        desk.setArrival(2, 66);
        Check.due("a truck that is there already", 67 + 15 + 50, desk.hang(2));
        Stagecargo first = Shows.lightIn(100, 15, 1440, 60, 41);
        first.setArrival(0, 1000);
        Check.due("a late first truck", 1060, first.hang(0));
        Check.due("the next one takes a pause", 1060 + 15 + 41, first.hang(1));
    }

    private static void takeDown() {
        Stagecargo desk = Shows.lightIn(100, 15, 1440, 60, 50, 40);
        Check.thrown("nothing hangs", IllegalStateException.class, desk::takeDown);
        desk.setRates(0, 3, 50, 4);
        String none = Snapshot.of(desk);
        desk.hang(2);
        String one = Snapshot.of(desk);
        desk.hang(0);
        Check.due("the last one", 0, desk.takeDown());
        Check.dueText("all is as before the second", one, Snapshot.of(desk));
        Check.due("the first one", 2, desk.takeDown());
        Check.dueText("all is as before the first", none, Snapshot.of(desk));
        Stagecargo bare = Shows.lightIn(100, 15, 1440, 60);
        Check.refused(bare, "takeDown in a town", IllegalStateException.class, bare::takeDown);
        Check.thrown("in no town", IllegalStateException.class, Shows.light(60)::takeDown);
    }

    private static void hungAndHungAt() {
        Stagecargo desk = Shows.lightIn(480, 5, 1440, 10, 10, 10, 10);
        Check.thrown("nothing hangs", IndexOutOfBoundsException.class, () -> desk.hungAt(0));
        Shows.hangAll(desk, 2, 0, 3);
        Check.due("three hang", 3, desk.hung());
        Check.due("the first", 2, desk.hungAt(0));
        Check.due("the second", 0, desk.hungAt(1));
        Check.due("the third", 3, desk.hungAt(2));
        Check.thrown("no fourth", IndexOutOfBoundsException.class, () -> desk.hungAt(3));
        for (int far : FAR) {
            Check.thrown("far index", IndexOutOfBoundsException.class, () -> desk.hungAt(far));
        }
        desk.takeDown();
        Check.due("two hang", 2, desk.hung());
        Check.thrown("no third", IndexOutOfBoundsException.class, () -> desk.hungAt(2));
    }

    private static void beginOf() {
        Stagecargo desk = Shows.lightIn(100, 15, 1440, 60, 50, 40);
        desk.setArrival(2, 20);
        Shows.hangAll(desk, 2, 0);
        Check.due("the first", 20, desk.beginOf(2));
        Check.due("the second", 60, desk.beginOf(0));
        Check.thrown("not hung", NoSuchElementException.class, () -> desk.beginOf(1));
        Check.thrown("no piece", NoSuchElementException.class, () -> desk.beginOf(3));
        for (int far : FAR) {
            Check.thrown("far piece", NoSuchElementException.class, () -> desk.beginOf(far));
        }
        desk.takeDown();
        Check.thrown("not hung any more", NoSuchElementException.class, () -> desk.beginOf(0));
        Check.due("hung still", 20, desk.beginOf(2));
    }

    private static void endAndWork() {
        Stagecargo desk = Shows.lightIn(100, 15, 1440, 60, 50, 40);
        Check.due("end of nothing", 0, desk.end());
        Check.due("work of nothing", 0, desk.work());
        desk.setArrival(0, 33);
        desk.hang(0);
        Check.due("end behind a truck", 93, desk.end());
        Check.due("work behind a truck", 60, desk.work());
        desk.hang(2);
        Check.due("end of two", 133, desk.end());
        Check.due("work of two", 100, desk.work());
        desk.hang(1);
        Check.due("end of three", 198, desk.end());
        Check.due("work behind a pause", 50, desk.work());
        desk.takeDown();
        Check.due("end of two again", 133, desk.end());
        Check.due("work of two again", 100, desk.work());
    }

    private static void costs() {
        Stagecargo desk = Shows.lightIn(480, 5, 1440, 60);
        Check.due("cost of nothing", 0, desk.cost());
        Check.due("cost of nothing, by minutes", 0, desk.costByMinutes());
        desk.setRates(0, 2, 5, 3);
        Check.due("cost of nothing with rates", 0, desk.cost());
        Check.due("cost of nothing with rates, by minutes", 0, desk.costByMinutes());
        desk.setArrival(0, 100);
        desk.hang(0);
        int[][] cases = {{0, 180}, {99, 180}, {100, 180}, {101, 179}, {159, 121}, {160, 120}, {161, 120}, {1440, 120}};
        for (int[] c : cases) {
            desk.setRates(0, 2, c[0], 3);
            Check.due("cost with overtime " + c[0], c[1], desk.cost());
            Check.due("cost by minutes with overtime " + c[0], c[1], desk.costByMinutes());
        }
        Stagecargo dear = Shows.lightIn(480, 5, 1440, 240, 240, 240, 240, 240, 230);
        dear.setRates(0, 98, 700, 99);
        Check.due("all pieces of a long night", 6, dear.complete());
        Check.due("with their pauses", 1440, dear.end());
        Check.due("the dearest night", dear.cost(), dear.costByMinutes());
        Check.due("the dearest night, counted", 1430 * 99 - 695, dear.cost());
    }

    private static void costsOverGaps() {
        Stagecargo desk = Shows.lightIn(100, 20, 1440, 60, 50, 30);
        desk.setArrival(2, 200);
        Shows.hangAll(desk, 0, 1, 2);
        Check.due("begins behind a pause", 80, desk.beginOf(1));
        Check.due("begins behind a wait", 200, desk.beginOf(2));
        int[][] cases = {{60, 60 + 80 * 10}, {70, 60 + 80 * 10}, {80, 60 + 80 * 10}, {81, 61 + 79 * 10},
                {130, 110 + 300}, {200, 110 + 300}, {229, 139 + 10}, {230, 140}};
        for (int[] c : cases) {
            desk.setRates(0, 1, c[0], 10);
            Check.due("cost over gaps with overtime " + c[0], c[1], desk.cost());
            Check.due("cost over gaps by minutes with overtime " + c[0], c[1], desk.costByMinutes());
        }
    }
}
