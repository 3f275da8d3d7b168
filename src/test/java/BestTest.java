import java.util.NoSuchElementException;

/**
 * Promises 24 to 31, part by part: the best completion, both ways, and the number of completions. Which one is
 * the best is told in RigTermsTest.
 */
public final class BestTest {
    private static final Class<? extends RuntimeException> STATE = IllegalStateException.class;
    private static final Class<? extends RuntimeException> INDEX = IndexOutOfBoundsException.class;
    private static final Class<? extends RuntimeException> ELEMENT = NoSuchElementException.class;

    public static void main(String[] args) {
        answersOfThePresentRig();
        answersOfThree();
        bestBehindASmallOne();
        bestInFourTowns();
        reasonThatPasses();
        greatWorthThatComesLater();
        greatWorthThatNeedsAnother();
        needsAndLoads();
        fromThePresentRig();
        eachAskedFirst();
        bestAtIndex();
        completeDoes();
        completeBehindTheRig();
        completeReturns();
        completionsDoes();
        completionsReturns();
        Check.finish("BestTest");
    }

    private static void dueBest(Stagecargo desk, int worth, int end, int cost, int... pieces) {
        Check.promise(24, "Returns");
        Check.due("bestWorth", worth, desk.bestWorth());
        Check.promise(25, "Returns");
        Check.due("bestByAll", worth, desk.bestByAll());
        Check.promise(26, "Returns");
        Check.due("bestEnd", end, desk.bestEnd());
        Check.promise(27, "Returns");
        Check.due("bestCost", cost, desk.bestCost());
        Check.promise(28, "Returns");
        Check.due("bestSize", pieces.length, desk.bestSize());
        Check.promise(29, "Returns");
        for (int i = 0; i < pieces.length; i++) {
            Check.due("bestAt(" + i + ")", pieces[i], desk.bestAt(i));
        }
        Check.thrown("bestAt has no more", INDEX, () -> desk.bestAt(pieces.length));
    }

    // ---- Promises 24 to 29

    /** Nothing can be hung, or nothing more. */
    private static void answersOfThePresentRig() {
        dueBest(new Stagecargo(), 0, 0, 0);
        dueBest(Shows.full(), 0, 0, 0);
        dueBest(Shows.withoutPieces(), 0, 0, 0);
        dueBest(Shows.withoutPoints(), 0, 0, 0);
        dueBest(Shows.lightIn(30, 5, 60, 31), 0, 0, 0);
        dueBest(Shows.fullAndHung(), 21, 210, 530, 5, 4, 3, 2, 1, 0);
        Stagecargo late = Shows.lightIn(60, 5, 60, 30, 31);
        late.setRates(0, 3, 1440, 0);
        late.hang(0);
        dueBest(late, 5, 30, 90, 0);
    }

    private static void answersOfThree() {
        Check.promise(24, "does");
        Check.due("worth of all that can be", 23, Shows.busy().bestWorth());
        Check.promise(25, "does");
        Check.due("worth by all completions", 23, Shows.busy().bestByAll());
        Check.promise(26, "does");
        Check.due("end of the last piece", 250, Shows.busy().bestEnd());
        Check.promise(27, "does");
        Check.due("cost with the overtime", 30 * 2 + 30 * 5 + 40 * 5 + 50 * 5, Shows.busy().bestCost());
        Check.promise(28, "does");
        Check.due("the hung pieces, too", 3, Shows.busy().bestSize());
        Check.promise(29, "does");
        Check.due("the first one hangs", 0, Shows.busy().bestAt(0));
        Check.due("the third one does not yet", 2, Shows.busy().bestAt(2));
    }

    /** Piece 1 can only come behind the small piece 2, without piece 0, and ends just at the curfew. */
    private static void bestBehindASmallOne() {
        int[][] laws = {{480, 5, 65, 61}, {60, 5, 70, 60}};
        for (int[] law : laws) {
            Stagecargo desk = new Stagecargo();
            desk.addPoint(0, 5000);
            desk.addPoint(10, 5000);
            desk.addPiece(10, law[3], 10, 0);
            desk.addPiece(10, 60, 20, 0);
            desk.addPiece(10, 5, 1, 0);
            for (int i = 0; i < 3; i++) {
                desk.fix(i, 0, 1, 5, 0);
            }
            desk.need(1, 2);
            desk.addTown(100, law[0], law[1], law[2]);
            desk.come(0);
            dueBest(desk, 21, law[2], 0, 2, 1);
        }
    }

    /** The full show: in town 1 just 60 minutes of work come to an end before the curfew, and they are worth 6. */
    private static void bestInFourTowns() {
        Stagecargo desk = Shows.full();
        desk.come(0);
        dueBest(desk, 1, 10, 0, 0);
        desk.come(1);
        dueBest(desk, 6, 60, 0, 0, 1, 2);
        desk.setArrival(0, 30);
        dueBest(desk, 6, 60, 0, 1, 2, 0);
        desk.setArrival(0, 51);
        dueBest(desk, 6, 60, 0, 5);
        desk.setArrival(0, 0);
        desk.come(2);
        dueBest(desk, 21, 210, 0, 0, 1, 2, 3, 4, 5);
        desk.come(3);
        dueBest(desk, 21, 210, 530, 0, 1, 2, 3, 4, 5);
        Shows.hangAll(desk, 4, 2);
        dueBest(desk, 21, 210, 530, 4, 2, 0, 1, 3, 5);
    }

    /** Piece 1 would end at 165 behind piece 0, and at 160 if piece 2 takes the pause between them. */
    private static void reasonThatPasses() {
        Stagecargo desk = Shows.lightIn(100, 30, 160, 90, 20, 20);
        desk.setArrival(1, 115);
        desk.hang(0);
        Check.promise(14, "Returns");
        Check.dueChar("too late now", 'c', desk.reason(1));
        Check.dueChar("the other may be hung", '-', desk.reason(2));
        dueBest(desk, 15, 160, 0, 0, 2, 1);
        Check.promise(31, "Returns");
        Check.due("completions", 3, desk.completions());
        desk.hang(2);
        Check.promise(14, "Returns");
        Check.dueChar("not too late any more", '-', desk.reason(1));
    }

    /**
     * Piece 0 is worth the most and can be hung at once. Behind piece 1 it would come too late, if piece 2 did not
     * take the pause between them; and only so all three are hung.
     */
    private static void greatWorthThatComesLater() {
        Stagecargo desk = Shows.withoutPieces();
        desk.addPiece(10, 20, 50, 1);
        desk.addPiece(10, 90, 5, 0);
        desk.addPiece(10, 20, 5, 2);
        for (int i = 0; i < 3; i++) {
            desk.fix(i, 0, 1, 5, 0);
        }
        desk.setArrival(1, 115);
        desk.addTown(100, 100, 30, 160);
        desk.come(1);
        dueBest(desk, 60, 160, 0, 1, 2, 0);
        desk.need(0, 2);
        dueBest(desk, 60, 160, 0, 1, 2, 0);
    }

    /** Piece 1 is worth the most and needs 0; piece 2 hangs only before both, so that 0 and 1 alone are found first. */
    private static void greatWorthThatNeedsAnother() {
        Stagecargo desk = Shows.withoutPieces();
        desk.addPiece(10, 5, 1, 2);
        desk.addPiece(10, 20, 50, 1);
        desk.addPiece(10, 60, 5, 0);
        for (int i = 0; i < 3; i++) {
            desk.fix(i, 0, 1, 5, 0);
        }
        desk.need(1, 0);
        desk.setArrival(1, 70);
        desk.setArrival(2, 61);
        desk.addTown(100, 480, 5, 90);
        desk.come(1);
        dueBest(desk, 56, 90, 0, 2, 0, 1);
        desk.setArrival(0, 1);
        dueBest(desk, 56, 90, 0, 2, 0, 1);
        desk.setArrival(0, 6);
        dueBest(desk, 51, 90, 0, 0, 1);
    }

    private static void needsAndLoads() {
        Stagecargo desk = Shows.withPoints();
        desk.addPiece(600, 30, 20, 0);
        desk.addPiece(600, 30, 11, 0);
        desk.addPiece(300, 30, 10, 0);
        desk.fix(0, 0, 1, 0, 0);
        desk.fix(1, 0, 1, 0, 0);
        desk.fix(2, 0, 1, 0, 0);
        desk.addTown(100, 480, 5, 1440);
        desk.addTown(50, 480, 5, 1440);
        desk.addTown(90, 480, 5, 1440);
        desk.come(0);
        dueBest(desk, 30, 60, 0, 0, 2);
        desk.come(1);
        dueBest(desk, 10, 30, 0, 2);
        desk.come(2);
        dueBest(desk, 30, 60, 0, 0, 2);
        desk.need(0, 1);
        dueBest(desk, 21, 60, 0, 1, 2);
        desk.need(2, 0);
        dueBest(desk, 11, 30, 0, 1);
    }

    private static void fromThePresentRig() {
        Stagecargo desk = Shows.lightIn(100, 20, 240, 60, 50, 40, 70);
        desk.setRates(0, 1, 100, 3);
        desk.hang(3);
        dueBest(desk, 15, 180, 100 - 20 + 80 * 3, 3, 1, 2);
        desk.hang(2);
        dueBest(desk, 15, 180, 70 + 10 + 80 * 3, 3, 2, 1);
        desk.hang(1);
        dueBest(desk, 15, 180, 70 + 10 + 80 * 3, 3, 2, 1);
        desk.takeDown();
        desk.takeDown();
        desk.takeDown();
        dueBest(desk, 15, 170, 100 + 50 * 3, 0, 2, 1);
    }

    /** No question about the best completion rests on another one that was asked before. */
    private static void eachAskedFirst() {
        Stagecargo desk = Shows.lightIn(480, 5, 1440, 10, 20, 30);
        desk.setRates(0, 1, 1440, 0);
        Check.promise(26, "Returns");
        Check.due("bestEnd first", 60, desk.bestEnd());
        desk.addPiece(10, 40, 5, 0);
        desk.fix(3, 0, 1, 5, 0);
        Check.promise(27, "Returns");
        Check.due("bestCost behind a new piece", 100, desk.bestCost());
        desk.setRates(0, 2, 1440, 0);
        Check.due("bestCost behind new rates", 200, desk.bestCost());
        desk.setArrival(0, 1);
        Check.promise(26, "Returns");
        Check.due("bestEnd behind an arrival", 100, desk.bestEnd());
        Check.promise(29, "Returns");
        Check.due("bestAt behind an arrival", 1, desk.bestAt(0));
        desk.need(1, 2);
        Check.due("bestAt behind a need", 2, desk.bestAt(0));
        desk.hang(3);
        Check.due("bestAt behind a piece", 3, desk.bestAt(0));
        desk.takeDown();
        Check.due("bestAt behind taking down", 2, desk.bestAt(0));
        desk.addPoint(20, 100);
        desk.addPiece(1000, 40, 5, 0);
        Check.promise(28, "Returns");
        Check.due("bestSize without a fixing", 4, desk.bestSize());
        desk.fix(4, 0, 2, 0, 0);
        Check.due("bestSize behind a fixing", 5, desk.bestSize());
        desk.addTown(10, 30, 5, 100);
        desk.come(1);
        Check.promise(24, "Returns");
        Check.due("bestWorth in another town", 15, desk.bestWorth());
        desk.come(0);
        Check.due("bestWorth in the first town", 25, desk.bestWorth());
        desk.come(1);
        Check.promise(25, "Returns");
        Check.due("bestByAll in another town", 15, desk.bestByAll());
        Check.promise(30, "Returns");
        Check.due("complete", 3, desk.complete());
        desk.come(0);
        Check.due("complete in the first town", 5, desk.complete());
    }

    private static void bestAtIndex() {
        Check.promise(29, "index");
        Check.range("index of six", 0, 5, INDEX, index -> Shows.fullAndHung().bestAt(index));
        Check.range("index of three, two of which hang", 0, 2, INDEX, index -> Shows.busy().bestAt(index));
        Check.thrown("no index of none", INDEX, () -> new Stagecargo().bestAt(0));
        Check.thrown("no index in no town", INDEX, () -> Shows.full().bestAt(0));
    }

    // ---- Promise 30

    private static void completeDoes() {
        Check.promise(30, "does");
        Stagecargo desk = Shows.lightIn(100, 20, 1440, 60, 50, 50);
        desk.setRates(0, 1, 110, 2);
        desk.complete();
        Check.due("three hang", 3, desk.hung());
        int[] order = {1, 2, 0};
        for (int i = 0; i < order.length; i++) {
            Check.due("in the order of the best", order[i], desk.hungAt(i));
            Check.dueChar("hung", 'h', desk.reason(i));
        }
        Check.due("begin of the third", 120, desk.beginOf(0));
        Check.due("end", 180, desk.end());
        Check.due("work", 60, desk.work());
        Check.due("cost", 220, desk.cost());
        Check.due("cost by minutes", 220, desk.costByMinutes());
        Check.due("loads", 15, desk.bears(0));
        Check.thrown("a truck of them is fast", STATE, () -> desk.setArrival(1, 9));
        Check.thrown("a fixing is, too", STATE, () -> desk.fix(2, 0, 1, 5, 0));
        Check.thrown("and the needs", STATE, () -> desk.need(2, 0));
        Check.due("the last one may be taken down", 0, desk.takeDown());
        Check.due("its load is gone", 10, desk.bears(0));
        Check.due("and hung again", 1, desk.complete());
    }

    private static void completeBehindTheRig() {
        Check.promise(30, "does");
        Stagecargo desk = Shows.busy();
        desk.complete();
        Check.due("the first stays", 0, desk.hungAt(0));
        Check.due("the second stays", 1, desk.hungAt(1));
        Check.due("the third comes behind them", 2, desk.hungAt(2));
        Check.due("and begins with its truck", 200, desk.beginOf(2));
        Check.due("the second began before", 70, desk.beginOf(1));
        Check.thrown("what has no fixing stays away", ELEMENT, () -> desk.beginOf(3));
    }

    private static void completeReturns() {
        Check.promise(30, "Returns");
        Check.due("in no town", 0, Shows.full().complete());
        Check.due("on a new desk", 0, new Stagecargo().complete());
        Check.due("without pieces", 0, Shows.withoutPieces().complete());
        Check.due("when all hangs", 0, Shows.fullAndHung().complete());
        Check.due("when nothing can be hung", 0, Shows.lightIn(30, 5, 60, 31).complete());
        Stagecargo desk = Shows.full();
        desk.come(3);
        Check.due("all six", 6, desk.complete());
        Check.due("and no more", 0, desk.complete());
        desk.takeDown();
        desk.takeDown();
        Check.due("the last two again", 2, desk.complete());
        Check.due("one more", 1, Shows.busy().complete());
    }

    // ---- Promise 31

    private static void completionsDoes() {
        Check.promise(31, "does");
        Check.due("the present rig alone, on a new desk", 1, new Stagecargo().completions());
        Check.due("in no town", 1, Shows.full().completions());
        Check.due("when all hangs", 1, Shows.fullAndHung().completions());
        Check.due("when nothing can be hung", 1, Shows.lightIn(30, 5, 60, 31).completions());
        Check.due("and with one more piece", 2, Shows.lightIn(30, 5, 60, 10).completions());
    }

    private static void completionsReturns() {
        Check.promise(31, "Returns");
        Check.due("two pieces", 1 + 2 + 2, Shows.lightIn(30, 5, 60, 10, 10).completions());
        Stagecargo full = Shows.full();
        full.come(3);
        Check.due("six pieces", 1 + 6 + 30 + 120 + 360 + 720 + 720, full.completions());
        full.hang(5);
        Check.due("five pieces", 1 + 5 + 20 + 60 + 120 + 120, full.completions());
        full.come(0);
        Check.due("one that is not too heavy", 2, full.completions());
        Stagecargo needy = Shows.lightIn(480, 5, 1440, 10, 10, 10);
        needy.need(1, 0);
        Check.due("one needs another", 1 + 2 + 3 + 3, needy.completions());
        needy.hang(2);
        Check.due("behind the free one", 3, needy.completions());
        needy.hang(0);
        Check.due("one is left", 2, needy.completions());
        needy.hang(1);
        Check.due("none is left", 1, needy.completions());
        Check.due("the curfew ends some", 1 + 3 + 6, Shows.lightIn(480, 5, 60, 30, 30, 30).completions());
        Stagecargo loose = Shows.lightIn(480, 5, 1440, 10);
        loose.addPiece(10, 10, 1, 0);
        Check.due("one has no fixing", 2, loose.completions());
    }
}
