/** Promises 24 to 31: the best completion, both ways, and the number of completions. */
public final class BestTest {
    private static final int[] FAR = {Integer.MIN_VALUE, -1, Integer.MAX_VALUE};

    public static void main(String[] args) {
        inNoTown();
        worthFirst();
        endSecond();
        costThird();
        lowerPieceLast();
        costBehindTheGap();
        bestBehindASmallOne();
        eachAskedFirst();
        reasonThatPasses();
        needsAndLoads();
        fromThePresentRig();
        bestAtRefuses();
        complete();
        completions();
        askingChangesNothing();
        Check.finish("BestTest");
    }

    private static void dueBest(String what, Stagecargo desk, int worth, int end, int cost, int... pieces) {
        Check.due(what + ": bestWorth", worth, desk.bestWorth());
        Check.due(what + ": bestByAll", worth, desk.bestByAll());
        Check.due(what + ": bestEnd", end, desk.bestEnd());
        Check.due(what + ": bestCost", cost, desk.bestCost());
        Check.due(what + ": bestSize", pieces.length, desk.bestSize());
        for (int i = 0; i < pieces.length; i++) {
            Check.due(what + ": bestAt(" + i + ")", pieces[i], desk.bestAt(i));
        }
        Check.thrown(what + ": no more", IndexOutOfBoundsException.class, () -> desk.bestAt(pieces.length));
    }

    private static void inNoTown() {
        dueBest("no town", Shows.light(10, 10), 0, 0, 0);
    }

    /** One piece of great worth is better than two small ones, and two than one of less. */
    private static void worthFirst() {
        for (int great = 9; great <= 12; great++) {
            Stagecargo desk = Shows.light(40, 40);
            desk.addPiece(10, 90, great, 2);
            desk.fix(2, 0, 1, 5, 0);
            desk.addTown(100, 100, 5, 100);
            desk.come(0);
            desk.setRates(0, 1, 1440, 1);
            if (great > 10) {
                dueBest("one of worth " + great, desk, great, 90, 90, 2);
            } else {
                dueBest("two against one of worth " + great, desk, 10, 80, 80, 0, 1);
            }
        }
    }

    private static void endSecond() {
        Stagecargo desk = Shows.lightIn(480, 5, 1440, 30, 30, 30);
        desk.setArrival(0, 50);
        dueBest("the late truck last", desk, 15, 90, 0, 1, 2, 0);
        desk.setArrival(1, 25);
        dueBest("the later truck in the middle", desk, 15, 90, 0, 2, 1, 0);
        Stagecargo paused = Shows.lightIn(100, 20, 1440, 50, 60, 40, 50);
        dueBest("one pause instead of two", paused, 20, 220, 0, 0, 3, 1, 2);
    }

    /** 60 and 50 and 50 minutes end at 180 with the pause behind 60 or before it. */
    private static void costThird() {
        Stagecargo desk = Shows.lightIn(100, 20, 1440, 60, 50, 50);
        dueBest("no rates", desk, 15, 180, 0, 0, 1, 2);
        desk.setRates(0, 1, 110, 2);
        dueBest("dear overtime", desk, 15, 180, 100 + 120, 1, 2, 0);
        desk.setRates(0, 2, 110, 1);
        dueBest("cheap overtime", desk, 15, 180, 180 + 70, 0, 1, 2);
        desk.setRates(0, 1, 180, 2);
        dueBest("no overtime", desk, 15, 180, 160, 0, 1, 2);
    }

    private static void lowerPieceLast() {
        dueBest("all alike", Shows.lightIn(480, 5, 1440, 10, 10, 10, 10, 10, 10), 30, 60, 0, 0, 1, 2, 3, 4, 5);
        Stagecargo two = Shows.lightIn(480, 5, 60, 30, 30, 30);
        dueBest("two of three", two, 10, 60, 0, 0, 1);
        two.setArrival(0, 30);
        dueBest("the lowest one last", two, 10, 60, 0, 1, 0);
        Stagecargo needed = Shows.lightIn(480, 5, 1440, 10, 10, 10);
        needed.need(0, 2);
        dueBest("the lowest that may be first", needed, 15, 30, 0, 1, 2, 0);
    }

    /** The gap lies at 90 to 110 or at 100 to 120, and nothing else comes between; both end at 210. */
    private static void costBehindTheGap() {
        Stagecargo desk = Shows.lightIn(100, 20, 1440, 60, 30, 50, 50);
        desk.setRates(0, 1, 100, 2);
        dueBest("the gap in the overtime", desk, 20, 210, 100 + 90 * 2, 2, 3, 0, 1);
        desk.setRates(0, 2, 100, 1);
        dueBest("the gap before the overtime", desk, 20, 210, 90 * 2 + 100, 0, 1, 2, 3);
    }

    /** Piece 1 can only come behind the small piece 2, without piece 0, and ends just at the curfew. */
    private static void bestBehindASmallOne() {
        int[][] laws = {{480, 5, 65, 61}, {60, 5, 70, 60}};
        for (int[] law : laws) {
            Stagecargo desk = new Stagecargo();
            desk.addPoint(0, 5000);
            desk.addPoint(10, 5000);
            desk.addPiece(10, law[3], 10, 0);
            desk.addPiece(10, 60, 20, 0);
            desk.addPiece(10, 5, 1, 0);
            for (int i = 0; i < 3; i++) {
                desk.fix(i, 0, 1, 5, 0);
            }
            desk.need(1, 2);
            desk.addTown(100, law[0], law[1], law[2]);
            desk.come(0);
            dueBest("curfew " + law[2], desk, 21, law[2], 0, 2, 1);
        }
    }

    /** No question about the best completion rests on another one that was asked before. */
    private static void eachAskedFirst() {
        Stagecargo desk = Shows.lightIn(480, 5, 1440, 10, 20, 30);
        desk.setRates(0, 1, 1440, 0);
        Check.due("bestEnd first", 60, desk.bestEnd());
        desk.addPiece(10, 40, 5, 0);
        desk.fix(3, 0, 1, 5, 0);
        Check.due("bestCost behind a new piece", 100, desk.bestCost());
        desk.setRates(0, 2, 1440, 0);
        Check.due("bestCost behind new rates", 200, desk.bestCost());
        desk.setArrival(0, 1);
        Check.due("bestEnd behind an arrival", 100, desk.bestEnd());
        Check.due("bestAt behind an arrival", 1, desk.bestAt(0));
        desk.need(1, 2);
        Check.due("bestAt behind a need", 2, desk.bestAt(0));
        desk.hang(3);
        Check.due("bestAt behind a piece", 3, desk.bestAt(0));
        desk.takeDown();
        Check.due("bestAt behind taking down", 2, desk.bestAt(0));
        desk.addPoint(20, 100);
        desk.addPiece(1000, 40, 5, 0);
        Check.due("bestSize without a fixing", 4, desk.bestSize());
        desk.fix(4, 0, 2, 0, 0);
        Check.due("bestSize behind a fixing", 5, desk.bestSize());
        desk.addTown(10, 30, 5, 100);
        desk.come(1);
        Check.due("bestWorth in another town", 15, desk.bestWorth());
        desk.come(0);
        Check.due("bestWorth in the first town", 25, desk.bestWorth());
        desk.come(1);
        Check.due("bestByAll in another town", 15, desk.bestByAll());
        Check.due("complete", 3, desk.complete());
        desk.come(0);
        Check.due("complete in the first town", 5, desk.complete());
    }

    /** Piece 1 would end at 165 behind piece 0, and at 160 if piece 2 takes the pause between them. */
    private static void reasonThatPasses() {
        Stagecargo desk = Shows.lightIn(100, 30, 160, 90, 20, 20);
        desk.setArrival(1, 115);
        desk.hang(0);
        Check.dueChar("too late now", 'c', desk.reason(1));
        Check.dueChar("the other may be hung", '-', desk.reason(2));
        dueBest("the reason passes", desk, 15, 160, 0, 0, 2, 1);
        Check.due("completions", 3, desk.completions());
        Check.isTrue("isSound", desk.isSound());
        desk.hang(2);
        Check.dueChar("not too late any more", '-', desk.reason(1));
    }

    private static void needsAndLoads() {
        Stagecargo desk = Shows.withPoints();
        desk.addPiece(600, 30, 20, 0);
        desk.addPiece(600, 30, 11, 0);
        desk.addPiece(300, 30, 10, 0);
        desk.fix(0, 0, 1, 0, 0);
        desk.fix(1, 0, 1, 0, 0);
        desk.fix(2, 0, 1, 0, 0);
        desk.addTown(100, 480, 5, 1440);
        desk.addTown(50, 480, 5, 1440);
        desk.addTown(90, 480, 5, 1440);
        desk.come(0);
        dueBest("one heavy and the light one", desk, 30, 60, 0, 0, 2);
        desk.come(1);
        dueBest("only the light one", desk, 10, 30, 0, 2);
        desk.come(2);
        dueBest("exactly as much as may be", desk, 30, 60, 0, 0, 2);
        desk.need(0, 1);
        dueBest("without the one whose need leaves no room", desk, 21, 60, 0, 1, 2);
        desk.need(2, 0);
        dueBest("without what needs it", desk, 11, 30, 0, 1);
    }

    private static void fromThePresentRig() {
        Stagecargo desk = Shows.lightIn(100, 20, 240, 60, 50, 40, 70);
        desk.setRates(0, 1, 100, 3);
        desk.hang(3);
        dueBest("two more", desk, 15, 180, 100 - 20 + 80 * 3, 3, 1, 2);
        desk.hang(2);
        dueBest("behind 3 and 2", desk, 15, 180, 70 + 10 + 80 * 3, 3, 2, 1);
        desk.hang(1);
        dueBest("all that can be done", desk, 15, 180, 70 + 10 + 80 * 3, 3, 2, 1);
        Check.due("completions", 1, desk.completions());
        desk.takeDown();
        desk.takeDown();
        desk.takeDown();
        dueBest("from nothing", desk, 15, 170, 100 + 50 * 3, 0, 2, 1);
    }

    private static void bestAtRefuses() {
        Stagecargo desk = Shows.oneHung();
        Check.due("three pieces", 3, desk.bestSize());
        for (int far : FAR) {
            Check.thrown("far index", IndexOutOfBoundsException.class, () -> desk.bestAt(far));
        }
        Check.refused(desk, "bestAt(3)", IndexOutOfBoundsException.class, () -> desk.bestAt(3));
    }

    private static void complete() {
        Stagecargo desk = Shows.lightIn(100, 20, 1440, 60, 50, 50);
        desk.setRates(0, 1, 110, 2);
        Check.due("all three", 3, desk.complete());
        Check.due("hung", 3, desk.hung());
        Check.due("first", 1, desk.hungAt(0));
        Check.due("second", 2, desk.hungAt(1));
        Check.due("third", 0, desk.hungAt(2));
        Check.due("begin of the third", 120, desk.beginOf(0));
        Check.due("end", 180, desk.end());
        Check.due("work", 60, desk.work());
        Check.due("cost", 220, desk.cost());
        Check.due("loads", 15, desk.bears(0));
        Check.due("nothing more", 0, desk.complete());
        Check.due("the last one may be taken down", 0, desk.takeDown());
        Check.due("its load is gone", 10, desk.bears(0));
        Check.due("and hung again", 1, desk.complete());
        Check.due("in no town", 0, Shows.light(10).complete());
        Stagecargo hung = Shows.oneHung();
        Check.due("two more", 2, hung.complete());
        Check.due("behind the first", 0, hung.hungAt(0));
        Check.thrown("a truck of them is fast", IllegalStateException.class, () -> hung.setArrival(1, 9));
    }

    private static void completions() {
        Check.due("in no town", 1, Shows.light(10, 10).completions());
        Check.due("no pieces", 1, Shows.lightIn(30, 5, 60).completions());
        Check.due("one piece", 2, Shows.lightIn(30, 5, 60, 10).completions());
        Check.due("two pieces", 1 + 2 + 2, Shows.lightIn(30, 5, 60, 10, 10).completions());
        Check.due("six pieces", 1957, Shows.lightIn(480, 5, 1440, 10, 10, 10, 10, 10, 10).completions());
        Stagecargo needy = Shows.lightIn(480, 5, 1440, 10, 10, 10);
        needy.need(1, 0);
        Check.due("one needs another", 1 + 2 + 3 + 3, needy.completions());
        needy.hang(2);
        Check.due("behind the free one", 3, needy.completions());
        needy.hang(0);
        Check.due("one is left", 2, needy.completions());
        needy.hang(1);
        Check.due("none is left", 1, needy.completions());
        Check.due("the curfew ends some", 1 + 3 + 6, Shows.lightIn(480, 5, 60, 30, 30, 30).completions());
        Stagecargo loose = Shows.lightIn(480, 5, 1440, 10);
        loose.addPiece(10, 10, 1, 0);
        Check.due("one has no fixing", 2, loose.completions());
    }

    private static void askingChangesNothing() {
        Stagecargo desk = Shows.oneHung();
        String before = Snapshot.of(desk);
        Check.dueText("asking twice", before, Snapshot.of(desk));
        Check.due("still one", 1, desk.hung());
        Check.due("nothing is worked on behind it", 40, desk.end());
    }
}
