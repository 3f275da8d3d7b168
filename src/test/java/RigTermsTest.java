import java.util.NoSuchElementException;

/** "Terms", the second half, sentence by sentence: rig, reasons, costs, completions and exceptions. */
public final class RigTermsTest {
    private static final Class<? extends RuntimeException> STATE = IllegalStateException.class;
    private static final Class<? extends RuntimeException> ARGUMENT = IllegalArgumentException.class;
    private static final Class<? extends RuntimeException> INDEX = IndexOutOfBoundsException.class;
    private static final Class<? extends RuntimeException> ELEMENT = NoSuchElementException.class;
    private static final Class<? extends RuntimeException> RING = UnsupportedOperationException.class;

    public static void main(String[] args) {
        oneAfterTheOther();
        beginsAtMinuteZero();
        beginsBehindTheOneBefore();
        beginsWithItsTruck();
        firstBehindALateTruck();
        stretchIsFull();
        stretchIsOver();
        pauseComesFirst();
        workBeginsAnewWithIt();
        waitAsLongAsThePause();
        waitThatIsShorter();
        waitingIsNoWork();
        endsBehindItsMinutes();
        noTown();
        hung();
        noFixing();
        neededPieceNotHung();
        longerThanTheStretch();
        tooHeavy();
        laterThanTheCurfew();
        curfewBehindPauseAndWait();
        noReason();
        orderOfReasons();
        rateOfAMinute();
        minutesWorkedOn();
        noneOneOrMore();
        anotherOrder();
        eachCanBeHungNext();
        greatestWorth();
        endsFirst();
        costsLeast();
        costsLeastBehindTheGap();
        lowerPieceFirst();
        endOfARig();
        refusedChangesNothing();
        firstListedThrown();
        Check.finish("RigTermsTest");
    }

    // ---- Rig

    private static void oneAfterTheOther() {
        Check.terms("Pieces are hung one after the other.");
        Stagecargo desk = Shows.full();
        desk.come(3);
        int end = 0;
        int[] order = {3, 1, 5, 0, 4, 2};
        for (int i = 0; i < order.length; i++) {
            end += 10 * (order[i] + 1);
            Check.due("ends", end, desk.hang(order[i]));
            Check.due("at its place", order[i], desk.hungAt(i));
        }
    }

    private static void beginsAtMinuteZero() {
        Check.terms("A piece begins when the one before it ends, for the first one at minute 0");
        for (int piece = 0; piece < 3; piece++) {
            Stagecargo desk = Shows.lightIn(480, 5, 1440, 10, 20, 30);
            desk.hang(piece);
            Check.due("the first one", 0, desk.beginOf(piece));
            desk.takeDown();
            desk.hang(piece);
            Check.due("hung anew", 0, desk.beginOf(piece));
        }
    }

    private static void beginsBehindTheOneBefore() {
        Check.terms("A piece begins when the one before it ends, for the first one at minute 0");
        Stagecargo desk = Shows.lightIn(480, 5, 1440, 5, 240, 60);
        Shows.hangAll(desk, 1, 0, 2);
        Check.due("the second", 240, desk.beginOf(0));
        Check.due("the third", 245, desk.beginOf(2));
    }

    /** The piece before ends at minute 60; less than the pause of 15 is waited for. */
    private static void beginsWithItsTruck() {
        Check.terms("or when its truck arrives, if that is later");
        int[][] arrivalsAndBegins = {{0, 60}, {59, 60}, {60, 60}, {61, 61}, {74, 74}};
        for (int[] c : arrivalsAndBegins) {
            Stagecargo desk = Shows.lightIn(100, 15, 1440, 60, 40);
            desk.setArrival(1, c[0]);
            desk.hang(0);
            Check.due("ends behind arrival " + c[0], c[1] + 40, desk.hang(1));
            Check.due("begins", c[1], desk.beginOf(1));
            Check.due("work of both", 100, desk.work());
        }
    }

    private static void firstBehindALateTruck() {
        Check.terms("or when its truck arrives, if that is later");
        int[] arrivals = {0, 1, 14, 15, 1000};
        for (int arrival : arrivals) {
            Stagecargo desk = Shows.lightIn(100, 15, 1440, 100, 41);
            desk.setArrival(0, arrival);
            desk.hang(0);
            Check.due("begins when it arrives", arrival, desk.beginOf(0));
            Check.due("its work is its own", 100, desk.work());
            Check.due("the next one takes a pause", arrival + 100 + 15 + 41, desk.hang(1));
        }
    }

    private static void stretchIsFull() {
        Check.terms("The work of pieces that follow one another without a break counts together");
        Stagecargo desk = Shows.lightIn(100, 15, 1440, 60, 40, 30, 30);
        Shows.hangAll(desk, 0, 1);
        Check.due("as much as the stretch has needs no pause", 100, desk.end());
        Check.due("it counts together", 100, desk.work());
        desk.takeDown();
        desk.hang(2);
        Check.due("less than that", 90, desk.work());
        Stagecargo alone = Shows.lightIn(100, 15, 1440, 100);
        Check.due("a piece as long as the stretch", 100, alone.hang(0));
        Check.due("is no more than the stretch", 100, alone.work());
    }

    private static void stretchIsOver() {
        Check.terms("if the work so far and the minutes of the piece together are more than the stretch");
        int[][] minutesAndBegins = {{39, 60}, {40, 60}, {41, 75}, {42, 75}, {100, 75}};
        for (int[] c : minutesAndBegins) {
            Stagecargo desk = Shows.lightIn(100, 15, 1440, 60, c[0]);
            Shows.hangAll(desk, 0, 1);
            Check.due("60 and " + c[0] + " minutes in 100", c[1], desk.beginOf(1));
        }
        Stagecargo three = Shows.lightIn(100, 15, 1440, 30, 30, 40, 41);
        Shows.hangAll(three, 0, 1, 2);
        Check.due("three pieces together", 60, three.beginOf(2));
        three.takeDown();
        three.hang(3);
        Check.due("three pieces together, one minute more", 75, three.beginOf(3));
    }

    private static void pauseComesFirst() {
        Check.terms("the piece begins as many minutes later than it would otherwise as the pause has");
        int[] pauses = {5, 6, 119, 120};
        for (int pause : pauses) {
            Stagecargo desk = Shows.lightIn(100, pause, 1440, 60, 41, 60);
            desk.setArrival(1, 64);
            Shows.hangAll(desk, 0, 1);
            Check.due("behind its truck and a pause of " + pause, 64 + pause, desk.beginOf(1));
            Check.due("one piece more", 64 + pause + 41 + pause + 60, desk.hang(2));
        }
        Stagecargo longest = Shows.lightIn(480, 120, 1440, 240, 240, 5);
        Shows.hangAll(longest, 0, 1, 2);
        Check.due("the longest pause behind the longest stretch", 600, longest.beginOf(2));
    }

    private static void workBeginsAnewWithIt() {
        Check.terms("and the work begins anew with it");
        Stagecargo desk = Shows.lightIn(100, 15, 1440, 60, 41, 59, 5, 96);
        Shows.hangAll(desk, 0, 1);
        Check.due("the work of the piece behind the pause", 41, desk.work());
        Check.due("59 more are no more than 100", 116 + 59, desk.hang(2));
        Check.due("they count together", 100, desk.work());
        Check.due("then there is another pause", 175 + 15 + 5, desk.hang(3));
        Check.due("and 96 more need one again", 195 + 15 + 96, desk.hang(4));
        Check.due("each time anew", 96, desk.work());
    }

    /** The piece before ends at minute 60; the next one takes 30 or, too much for the stretch, 50 minutes. */
    private static void waitAsLongAsThePause() {
        Check.terms("If there were at least as many minutes between the end of the piece before and the arrival");
        int[] arrivals = {75, 76, 200};
        int[] minutes = {30, 40, 41, 50};
        for (int arrival : arrivals) {
            for (int taken : minutes) {
                Stagecargo desk = Shows.lightIn(100, 15, 1440, 60, taken);
                desk.setArrival(1, arrival);
                desk.hang(0);
                Check.due("no other pause behind arrival " + arrival, arrival + taken, desk.hang(1));
                Check.due("begins with its truck", arrival, desk.beginOf(1));
                Check.due("the work begins anew", taken, desk.work());
            }
        }
    }

    private static void waitThatIsShorter() {
        Check.terms("(Waiting for less is no break.)");
        int[] arrivals = {61, 74};
        for (int arrival : arrivals) {
            Stagecargo desk = Shows.lightIn(100, 15, 1440, 60, 40, 41);
            desk.setArrival(1, arrival);
            desk.setArrival(2, arrival);
            desk.hang(0);
            Check.due("no pause behind arrival " + arrival, arrival + 40, desk.hang(1));
            Check.due("the work counts together", 100, desk.work());
            desk.takeDown();
            Check.due("a pause behind arrival " + arrival, arrival + 15 + 41, desk.hang(2));
            Check.due("which begins when it would begin otherwise", arrival + 15, desk.beginOf(2));
            Check.due("the work begins anew", 41, desk.work());
        }
        Stagecargo passed = Shows.lightIn(100, 15, 1440, 60, 41);
        passed.setArrival(1, 45);
        passed.hang(0);
        Check.due("a truck that came before is not waited for", 60 + 15 + 41, passed.hang(1));
    }

    private static void waitingIsNoWork() {
        Check.terms("(Waiting for less is no break.)");
        Stagecargo desk = Shows.lightIn(100, 15, 1440, 60, 20, 20);
        desk.setArrival(1, 74);
        desk.setArrival(2, 108);
        Shows.hangAll(desk, 0, 1);
        Check.due("work without 14 minutes of waiting", 80, desk.work());
        desk.hang(2);
        Check.due("two such waits are no break together", 100, desk.work());
        Check.due("and no work", 128, desk.end());
    }

    private static void endsBehindItsMinutes() {
        Check.terms("A piece ends as many minutes behind its beginning as it takes.");
        int[] minutes = {5, 6, 239, 240};
        for (int taken : minutes) {
            Stagecargo desk = Shows.lightIn(240, 15, 1440, 50, taken);
            desk.setArrival(1, 52);
            desk.hang(0);
            desk.hang(1);
            Check.due("takes " + taken, desk.beginOf(1) + taken, desk.end());
            Check.due("begins", taken > 190 ? 67 : 52, desk.beginOf(1));
        }
    }

    // ---- Reasons

    private static void noTown() {
        Check.terms("'t' the show is in no town");
        Stagecargo desk = Shows.full();
        for (int piece = 0; piece < 6; piece++) {
            int number = piece;
            Check.dueChar("piece " + piece, 't', desk.reason(piece));
            Check.thrown("cannot be hung", STATE, () -> desk.hang(number));
        }
        desk.come(3);
        Check.dueChar("in a town", '-', desk.reason(0));
    }

    private static void hung() {
        Check.terms("'h' it is hung");
        Stagecargo desk = Shows.fullAndHung();
        for (int piece = 0; piece < 6; piece++) {
            int number = piece;
            Check.dueChar("piece " + piece, 'h', desk.reason(piece));
            Check.thrown("cannot be hung again", STATE, () -> desk.hang(number));
        }
        desk.takeDown();
        Check.dueChar("the last one taken down", '-', desk.reason(0));
        Check.dueChar("the one before it", 'h', desk.reason(1));
    }

    private static void noFixing() {
        Check.terms("'f' it has no fixing");
        Stagecargo desk = Shows.busy();
        Check.dueChar("without", 'f', desk.reason(3));
        Check.thrown("cannot be hung", STATE, () -> desk.hang(3));
        Check.thrown("a fixing that is refused", ARGUMENT, () -> desk.fix(3, 0, 3, 10, 61));
        Check.dueChar("is none", 'f', desk.reason(3));
        desk.fix(3, 0, 3, 10, 60);
        Check.dueChar("with one", '-', desk.reason(3));
    }

    private static void neededPieceNotHung() {
        Check.terms("'n' a piece that it needs is not hung");
        Stagecargo desk = Shows.lightIn(480, 5, 1440, 5, 5, 5, 5);
        desk.need(0, 3);
        desk.need(3, 1);
        Check.dueChar("needs a piece that needs one itself", 'n', desk.reason(0));
        Check.dueChar("needs a piece", 'n', desk.reason(3));
        Check.thrown("cannot be hung", STATE, () -> desk.hang(3));
        desk.hang(1);
        Check.dueChar("that is hung", '-', desk.reason(3));
        Check.dueChar("the need of the need does not do", 'n', desk.reason(0));
        Check.thrown("cannot be hung either", STATE, () -> desk.hang(0));
        desk.hang(3);
        Check.dueChar("the need itself does", '-', desk.reason(0));
        desk.takeDown();
        Check.dueChar("taken down it does not", 'n', desk.reason(0));
    }

    private static void longerThanTheStretch() {
        Check.terms("'s' it takes more minutes than the stretch has");
        int[] stretches = {30, 31, 239};
        for (int stretch : stretches) {
            Stagecargo desk = Shows.lightIn(stretch, 5, 1440, stretch, stretch + 1, 5);
            Check.dueChar("just as many", '-', desk.reason(0));
            Check.dueChar("one more", 's', desk.reason(1));
            Check.thrown("cannot be hung", STATE, () -> desk.hang(1));
            desk.hang(2);
            Check.dueChar("just as many behind a pause", '-', desk.reason(0));
        }
    }

    private static void tooHeavy() {
        Check.terms("'l' one of its points would bear more than it may");
        // limits of the left and the right point, and the reason of 100 kg on the left and 50 kg on the right
        int[][] cases = {{100, 100, '-'}, {1000, 500, '-'}, {1000, 499, 'l'}, {999, 500, 'l'}, {999, 499, 'l'},
                {5000, 499, 'l'}, {999, 5000, 'l'}};
        for (int[] c : cases) {
            boolean alone = c[0] == 100;
            Stagecargo desk = new Stagecargo();
            desk.addPoint(0, c[0]);
            desk.addPoint(3, c[1]);
            desk.addPiece(150, 5, 1, 0);
            desk.addPiece(1350, 5, 1, 0);
            desk.fix(0, 0, 1, 1, 0);
            desk.fix(1, 0, 1, 1, 0);
            desk.addTown(100, 480, 5, 1440);
            desk.come(0);
            if (!alone) {
                desk.hang(1);
            }
            Check.due("the left point bears", alone ? 0 : 900, desk.bears(0));
            Check.due("the right point bears", alone ? 0 : 450, desk.bears(1));
            Check.dueChar("limits " + c[0] + " and " + c[1], (char) c[2], desk.reason(0));
            Check.dueText("to be hung", c[2] == '-' ? "nothing" : "IllegalStateException",
                    Check.nameOfThrown(() -> desk.hang(0)));
        }
    }

    private static void laterThanTheCurfew() {
        Check.terms("'c' it would end later than the curfew");
        int[][] curfewMinutesArrival = {{60, 30, 30}, {60, 5, 55}, {1440, 240, 1200}, {1440, 5, 1435}, {61, 61, 0}};
        for (int[] c : curfewMinutesArrival) {
            Stagecargo desk = Shows.lightIn(480, 5, c[0], c[1]);
            desk.setArrival(0, c[2]);
            Check.dueChar("ends with curfew " + c[0], '-', desk.reason(0));
            desk.setArrival(0, c[2] + 1);
            Check.dueChar("a minute later", 'c', desk.reason(0));
            Check.thrown("cannot be hung", STATE, () -> desk.hang(0));
        }
        Stagecargo never = Shows.lightIn(480, 5, 1440, 5);
        never.setArrival(0, 1440);
        Check.dueChar("the last minute of all", 'c', never.reason(0));
    }

    /** 60 minutes and, behind a pause of 15, 50 more end at 125; behind a truck of 70 and the pause at 135. */
    private static void curfewBehindPauseAndWait() {
        Check.terms("'c' it would end later than the curfew");
        int[][] cases = {{125, 0, '-'}, {124, 0, 'c'}, {135, 70, '-'}, {134, 70, 'c'}, {125, 75, '-'}, {124, 75, 'c'},
                {139, 74, '-'}, {138, 74, 'c'}};
        for (int[] c : cases) {
            Stagecargo desk = Shows.lightIn(100, 15, c[0], 60, 50);
            desk.setArrival(1, c[1]);
            desk.hang(0);
            Check.dueChar("curfew " + c[0] + ", arrival " + c[1], (char) c[2], desk.reason(1));
        }
    }

    private static void noReason() {
        Check.terms("If none applies, the reason is '-'.");
        Stagecargo desk = Shows.full();
        desk.come(3);
        for (int piece = 0; piece < 6; piece++) {
            Check.dueChar("piece " + piece, '-', desk.reason(piece));
            desk.hang(piece);
        }
    }

    /** Of any two reasons that can apply together the first is told. */
    private static void orderOfReasons() {
        Check.terms("There are these reasons for which a piece cannot be hung next");
        Stagecargo road = Shows.onTheRoad();
        Check.dueChar("no town before no fixing", 't', road.reason(3));
        Check.dueChar("no town before a need", 't', road.reason(1));
        // Piece 0 is longer than the stretch, 2 and 4 come too late, 4 is too heavy, and all will need 3.
        Stagecargo desk = Shows.lightIn(60, 5, 60, 61, 10, 10, 10);
        desk.addPoint(60, 100);
        desk.addPiece(200, 10, 1, 2);
        desk.setArrival(2, 51);
        Check.dueChar("too late alone", 'c', desk.reason(2));
        Check.dueChar("no fixing before too late", 'f', desk.reason(4));
        desk.need(4, 3);
        Check.dueChar("no fixing before a need", 'f', desk.reason(4));
        desk.fix(4, 0, 2, 60, 0);
        Check.dueChar("a need before too heavy and too late", 'n', desk.reason(4));
        desk.need(2, 3);
        Check.dueChar("a need before too late", 'n', desk.reason(2));
        Check.dueChar("longer than the stretch before too late", 's', desk.reason(0));
        desk.need(0, 3);
        Check.dueChar("a need before longer than the stretch", 'n', desk.reason(0));
        desk.hang(3);
        Check.dueChar("too heavy before too late", 'l', desk.reason(4));
        Check.dueChar("too late when its need hangs", 'c', desk.reason(2));
        Check.dueChar("longer than the stretch when its need hangs", 's', desk.reason(0));
        desk.addPiece(200, 61, 1, 0);
        Check.dueChar("no fixing before longer than the stretch", 'f', desk.reason(5));
        desk.fix(5, 0, 2, 60, 0);
        Check.dueChar("longer than the stretch before too heavy", 's', desk.reason(5));
        Check.dueChar("hung before too late", 'h', hungLate().reason(0));
    }

    private static Stagecargo hungLate() {
        Stagecargo desk = Shows.lightIn(60, 5, 60, 60);
        desk.hang(0);
        return desk;
    }

    // ---- Costs

    private static void rateOfAMinute() {
        Check.terms("The work of a minute costs the rate if the minute is less than the overtime of the town");
        // overtime, and how many of the minutes 10 to 14 are less
        int[][] cases = {{0, 0}, {9, 0}, {10, 0}, {11, 1}, {14, 4}, {15, 5}, {16, 5}, {1440, 5}};
        for (int[] c : cases) {
            Stagecargo desk = Shows.lightIn(30, 5, 60, 5);
            desk.setArrival(0, 10);
            desk.setRates(0, 7, c[0], 20);
            desk.hang(0);
            Check.due("overtime " + c[0], c[1] * 7 + (5 - c[1]) * 20, desk.cost());
            Check.due("overtime " + c[0] + ", by minutes", c[1] * 7 + (5 - c[1]) * 20, desk.costByMinutes());
            Check.due("overtime " + c[0] + ", of the best", c[1] * 7 + (5 - c[1]) * 20, desk.bestCost());
        }
    }

    private static void minutesWorkedOn() {
        Check.terms("is worked on in the minutes b to b + m - 1");
        Stagecargo desk = Shows.lightIn(60, 20, 1440, 40, 30, 10);
        desk.setArrival(2, 200);
        Shows.hangAll(desk, 0, 1, 2);
        Check.due("minutes 0 to 39, 60 to 89 and 200 to 209", 210, desk.end());
        // overtime, and how many minutes of work are less
        int[][] cases = {{0, 0}, {1, 1}, {39, 39}, {40, 40}, {60, 40}, {61, 41}, {89, 69}, {90, 70}, {91, 70},
                {200, 70}, {201, 71}, {209, 79}, {210, 80}, {211, 80}};
        for (int[] c : cases) {
            desk.setRates(0, 1, c[0], 0);
            Check.due("overtime " + c[0], c[1], desk.cost());
            Check.due("overtime " + c[0] + ", by minutes", c[1], desk.costByMinutes());
        }
    }

    // ---- Completions

    private static void noneOneOrMore() {
        Check.terms("by hanging none, one or more pieces");
        Stagecargo desk = Shows.lightIn(480, 5, 1440, 10, 20, 30);
        Check.due("none, three of one, six of two, six of three", 16, desk.completions());
        desk.hang(1);
        Check.due("none, two of one, two of two", 5, desk.completions());
        Shows.hangAll(desk, 0, 2);
        Check.due("none", 1, desk.completions());
        Check.best("the present rig", desk, 15, 60, 0, 1, 0, 2);
    }

    private static void anotherOrder() {
        Check.terms("the same pieces in another order are another completion");
        Stagecargo desk = Shows.lightIn(480, 5, 1440, 10, 10);
        Check.due("01 and 10 are two", 5, desk.completions());
        desk.need(0, 1);
        Check.due("10 alone is one", 3, desk.completions());
    }

    private static void eachCanBeHungNext() {
        Check.terms("one after the other, each of which can be hung next");
        Stagecargo desk = Shows.lightIn(60, 5, 60, 30, 30, 61);
        desk.addPiece(10, 5, 9, 0);
        Check.due("not what has no fixing or is too long", 5, desk.completions());
        Check.best("of two", desk, 10, 60, 0, 0, 1);
        desk.setArrival(0, 1);
        Check.due("01 ends too late", 1 + 2 + 1, desk.completions());
        Check.best("of both", desk, 10, 60, 0, 1, 0);
        desk.need(1, 0);
        Check.due("1 cannot be first", 1 + 1, desk.completions());
        Check.best("of one", desk, 5, 31, 0, 0);
    }

    /** One piece of great worth is better than two small ones, and two than one of less. */
    private static void greatestWorth() {
        Check.terms("The best completion is the one with the greatest worth of all its pieces");
        for (int great = 9; great <= 12; great++) {
            Stagecargo desk = Shows.light(40, 40);
            desk.addPiece(10, 90, great, 2);
            desk.fix(2, 0, 1, 5, 0);
            desk.addTown(100, 100, 5, 100);
            desk.come(0);
            desk.setRates(0, 1, 1440, 1);
            if (great > 10) {
                Check.best("one of worth " + great, desk, great, 90, 90, 2);
            } else {
                Check.best("two against one of worth " + great, desk, 10, 80, 80, 0, 1);
            }
        }
        Stagecargo hung = Shows.lightIn(100, 5, 100, 40, 40);
        hung.addPiece(10, 90, 99, 2);
        hung.fix(2, 0, 1, 5, 0);
        hung.hang(1);
        Check.best("of what can come of the present one", hung, 10, 80, 0, 1, 0);
    }

    private static void endsFirst() {
        Check.terms("of several, the one that ends first");
        Stagecargo desk = Shows.lightIn(480, 5, 1440, 30, 30, 30);
        desk.setRates(0, 9, 89, 0);
        desk.setArrival(0, 50);
        Check.best("the late truck last", desk, 15, 90, 89 * 9, 1, 2, 0);
        desk.setArrival(1, 25);
        Check.best("the later truck in the middle", desk, 15, 90, 89 * 9, 2, 1, 0);
        desk.setArrival(1, 31);
        Check.best("a minute late at least", desk, 15, 91, 88 * 9, 2, 1, 0);
        Stagecargo paused = Shows.lightIn(100, 20, 1440, 50, 60, 40, 50);
        Check.best("one pause instead of two", paused, 20, 220, 0, 0, 3, 1, 2);
    }

    /** 60 and 50 and 50 minutes end at 180 with the pause behind 60 or before it. */
    private static void costsLeast() {
        Check.terms("of several, the one that costs least");
        Stagecargo desk = Shows.lightIn(100, 20, 1440, 60, 50, 50);
        Check.best("no rates", desk, 15, 180, 0, 0, 1, 2);
        desk.setRates(0, 1, 110, 2);
        Check.best("dear overtime", desk, 15, 180, 100 + 120, 1, 2, 0);
        desk.setRates(0, 2, 110, 1);
        Check.best("cheap overtime", desk, 15, 180, 180 + 70, 0, 1, 2);
        desk.setRates(0, 1, 180, 2);
        Check.best("no overtime", desk, 15, 180, 160, 0, 1, 2);
    }

    /** The gap lies at 90 to 110 or at 100 to 120, and nothing else comes between; both end at 210. */
    private static void costsLeastBehindTheGap() {
        Check.terms("of several, the one that costs least");
        Stagecargo desk = Shows.lightIn(100, 20, 1440, 60, 30, 50, 50);
        desk.setRates(0, 1, 100, 2);
        Check.best("the gap in the overtime", desk, 20, 210, 100 + 90 * 2, 2, 3, 0, 1);
        desk.setRates(0, 2, 100, 1);
        Check.best("the gap before the overtime", desk, 20, 210, 90 * 2 + 100, 0, 1, 2, 3);
    }

    private static void lowerPieceFirst() {
        Check.terms("the one with the lower piece at the first place at which they differ");
        Check.best("all alike", Shows.lightIn(480, 5, 1440, 10, 10, 10, 10, 10, 10), 30, 60, 0, 0, 1, 2, 3, 4, 5);
        Stagecargo two = Shows.lightIn(480, 5, 60, 30, 30, 30);
        Check.best("two of three", two, 10, 60, 0, 0, 1);
        two.setArrival(0, 30);
        Check.best("the lowest one last", two, 10, 60, 0, 1, 0);
        Stagecargo needed = Shows.lightIn(480, 5, 1440, 10, 10, 10);
        needed.need(0, 2);
        Check.best("the lowest that may be first", needed, 15, 30, 0, 1, 2, 0);
        Stagecargo sizes = Shows.lightIn(480, 5, 60, 20, 60, 40);
        sizes.addPiece(10, 60, 10, 0);
        sizes.fix(3, 0, 1, 5, 0);
        Check.best("two that are worth as much as one", sizes, 10, 60, 0, 0, 2);
        sizes.need(0, 3);
        Check.best("one alone", sizes, 10, 60, 0, 3);
        Stagecargo fewer = Shows.light();
        int[] minutes = {60, 20, 40};
        for (int i = 0; i < minutes.length; i++) {
            fewer.addPiece(10, minutes[i], i == 0 ? 10 : 5, 0);
            fewer.fix(i, 0, 1, 5, 0);
        }
        fewer.addTown(100, 480, 5, 60);
        fewer.come(0);
        Check.best("one that is worth as much as two", fewer, 10, 60, 0, 0);
        Stagecargo behind = Shows.lightIn(480, 5, 1440, 10, 10, 10, 10);
        behind.hang(2);
        Check.best("behind what hangs", behind, 20, 40, 0, 2, 0, 1, 3);
    }

    private static void endOfARig() {
        Check.terms("(The end of a rig is that of its last piece, 0 if there is none.)");
        Stagecargo desk = Shows.lightIn(480, 5, 1440, 10, 20);
        desk.setArrival(1, 100);
        Check.due("of none", 0, desk.end());
        Check.due("of the last piece", 120, desk.hang(1));
        Check.due("is that of the rig", 120, desk.end());
        desk.takeDown();
        Check.due("of none again", 0, desk.end());
        Stagecargo none = Shows.lightIn(30, 5, 60, 31);
        Check.due("of the best, which is of none", 0, none.bestEnd());
        Check.due("in no town", 0, Shows.full().bestEnd());
        Check.due("on a new desk", 0, new Stagecargo().end());
    }

    // ---- Exceptions: RefusalTest has them all

    private static void refusedChangesNothing() {
        Check.terms("A method that throws an exception changes nothing.");
        Check.refused("a fixing", Shows::busy, ARGUMENT, desk -> desk.fix(2, 0, 2, 0, 61));
        Check.refused("a ring", Shows::busy, RING, desk -> desk.need(0, 2));
        Check.refused("an arrival", Shows::busy, STATE, desk -> desk.setArrival(0, 9));
        Check.refused("rates", Shows::busy, ARGUMENT, desk -> desk.setRates(0, 1, 1, 100));
        Check.refused("a town", Shows::busy, ELEMENT, desk -> desk.come(2));
        Check.refused("a piece that hangs", Shows::busy, STATE, desk -> desk.hang(0));
        Check.refused("a rig of none", Shows::onTheRoad, STATE, Stagecargo::takeDown);
    }

    private static void firstListedThrown() {
        Check.terms("If several exceptions apply, the one that is listed first is thrown.");
        Stagecargo desk = Shows.busy();
        Check.thrown("all four of fix", ELEMENT, () -> desk.fix(4, 9, 9, 99, 99));
        Check.thrown("three of fix", INDEX, () -> desk.fix(0, 9, 9, 99, 99));
        Check.thrown("two of fix", ARGUMENT, () -> desk.fix(0, 0, 1, 99, 99));
        Check.thrown("the last of fix", STATE, () -> desk.fix(0, 0, 1, 0, 0));
    }
}
