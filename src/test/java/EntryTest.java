import java.util.NoSuchElementException;

/** Promises 1 to 9: what enters the show, the towns and where it is. */
public final class EntryTest {
    private static final int[] FAR = {Integer.MIN_VALUE, -1, Integer.MAX_VALUE};

    public static void main(String[] args) {
        newDesk();
        addPoint();
        addPiece();
        fixAnswers();
        fixOnPointsNumberedBackwards();
        fixReplaces();
        fixRefuses();
        needAnswers();
        needRefuses();
        setArrival();
        setArrivalRefuses();
        addTown();
        setRates();
        setRatesRefuses();
        come();
        Check.finish("EntryTest");
    }

    private static void newDesk() {
        Stagecargo desk = new Stagecargo();
        Check.due("new: hung", 0, desk.hung());
        Check.due("new: end", 0, desk.end());
        Check.due("new: work", 0, desk.work());
        Check.due("new: cost", 0, desk.cost());
        Check.due("new: costByMinutes", 0, desk.costByMinutes());
        Check.due("new: bestWorth", 0, desk.bestWorth());
        Check.due("new: bestByAll", 0, desk.bestByAll());
        Check.due("new: bestEnd", 0, desk.bestEnd());
        Check.due("new: bestCost", 0, desk.bestCost());
        Check.due("new: bestSize", 0, desk.bestSize());
        Check.due("new: complete", 0, desk.complete());
        Check.due("new: completions", 1, desk.completions());
        Check.isTrue("new: isSound", desk.isSound());
        Check.thrown("new: town", NoSuchElementException.class, desk::town);
        Check.thrown("new: bears(0)", IndexOutOfBoundsException.class, () -> desk.bears(0));
        Check.thrown("new: reason(0)", NoSuchElementException.class, () -> desk.reason(0));
        Check.thrown("new: come(0)", NoSuchElementException.class, () -> desk.come(0));
        desk.addPoint(0, 100);
        Check.due("a second desk is its own", 0, new Stagecargo().addPoint(0, 100));
        for (int truck = 0; truck < 3; truck++) {
            Check.due("new: arrival of truck " + truck, 0, desk.setArrival(truck, 7));
        }
    }

    private static void addPoint() {
        Stagecargo desk = new Stagecargo();
        int[][] wrong = {{-1, 100}, {61, 100}, {0, 99}, {0, 5001}};
        for (int[] w : wrong) {
            Check.thrown("addPoint(" + w[0] + ", " + w[1] + ")", IllegalArgumentException.class,
                    () -> desk.addPoint(w[0], w[1]));
        }
        for (int far : FAR) {
            Check.thrown("addPoint far place", IllegalArgumentException.class, () -> desk.addPoint(far, 100));
            Check.thrown("addPoint far limit", IllegalArgumentException.class, () -> desk.addPoint(0, far));
        }
        int[][] good = {{0, 100}, {60, 5000}, {60, 100}, {0, 5000}, {30, 2000}, {30, 2000}, {1, 101}, {59, 4999}};
        for (int i = 0; i < good.length; i++) {
            Check.due("addPoint number " + i, i, desk.addPoint(good[i][0], good[i][1]));
        }
        Check.thrown("a ninth point", IllegalStateException.class, () -> desk.addPoint(0, 100));
        Check.thrown("a ninth point, out of range", IllegalArgumentException.class, () -> desk.addPoint(61, 100));
        desk.addTown(100, 30, 5, 60);
        desk.come(0);
        for (int i = 0; i < good.length; i++) {
            Check.due("limit of point " + i, good[i][1], desk.mayBear(i));
        }
        Check.thrown("no point 8", IndexOutOfBoundsException.class, () -> desk.bears(8));
    }

    private static void addPiece() {
        Stagecargo desk = new Stagecargo();
        int[][] wrong = {{9, 5, 1, 0}, {2001, 5, 1, 0}, {10, 4, 1, 0}, {10, 241, 1, 0},
                {10, 5, 0, 0}, {10, 5, 100, 0}, {10, 5, 1, -1}, {10, 5, 1, 3}};
        for (int[] w : wrong) {
            Check.thrown("addPiece(" + w[0] + ", " + w[1] + ", " + w[2] + ", " + w[3] + ")",
                    IllegalArgumentException.class, () -> desk.addPiece(w[0], w[1], w[2], w[3]));
        }
        for (int far : FAR) {
            Check.thrown("addPiece far weight", IllegalArgumentException.class, () -> desk.addPiece(far, 5, 1, 0));
            Check.thrown("addPiece far minutes", IllegalArgumentException.class, () -> desk.addPiece(10, far, 1, 0));
            Check.thrown("addPiece far worth", IllegalArgumentException.class, () -> desk.addPiece(10, 5, far, 0));
            Check.thrown("addPiece far truck", IllegalArgumentException.class, () -> desk.addPiece(10, 5, 1, far));
        }
        Check.thrown("hungShare without pieces", ArithmeticException.class, desk::hungShare);
        int[][] good = {{10, 5, 1, 0}, {2000, 240, 99, 2}, {10, 5, 99, 1}, {2000, 5, 1, 0}, {10, 240, 1, 2},
                {11, 6, 2, 1}};
        for (int i = 0; i < good.length; i++) {
            Check.due("addPiece number " + i, i, desk.addPiece(good[i][0], good[i][1], good[i][2], good[i][3]));
        }
        Check.thrown("a seventh piece", IllegalStateException.class, () -> desk.addPiece(10, 5, 1, 0));
        Check.thrown("a seventh piece, out of range", IllegalArgumentException.class, () -> desk.addPiece(9, 5, 1, 0));
        Check.thrown("no piece 6", NoSuchElementException.class, () -> desk.reason(6));
        desk.addTown(100, 480, 5, 1440);
        desk.come(0);
        Check.dueChar("a piece has no fixing at first", 'f', desk.reason(0));
        desk.addPoint(0, 5000);
        desk.addPoint(1, 5000);
        Check.due("the weight counts", 2000, desk.fix(1, 0, 1, 1, 0));
        Check.due("the minutes count", 240, desk.hang(1));
        Check.due("the worth counts", 99, desk.bestWorth());
        Check.thrown("the truck counts", IllegalStateException.class, () -> desk.setArrival(2, 0));
    }

    private static void fixAnswers() {
        Stagecargo desk = new Stagecargo();
        desk.addPoint(10, 1000);
        desk.addPoint(13, 1000);
        desk.addPoint(60, 1000);
        desk.addPoint(13, 1000);
        desk.addPiece(100, 10, 1, 0);
        desk.addPiece(2000, 10, 1, 0);
        // weight, centre and distance: 100 * 1 / 3 = 33.3, 100 * 2 / 3 = 66.7
        Check.due("part is rounded down", 33, desk.fix(0, 0, 1, 11, 0));
        Check.due("left load is the rest", 67, desk.loadOn(0, 0));
        Check.due("right load", 33, desk.loadOn(0, 1));
        Check.due("part of two thirds", 66, desk.fix(0, 0, 1, 12, 0));
        Check.due("left load of one third", 34, desk.loadOn(0, 0));
        Check.due("right load of two thirds", 66, desk.loadOn(0, 1));
        Check.due("centre at the left point", 0, desk.fix(0, 0, 1, 10, 60));
        Check.due("all on the left point", 160, desk.loadOn(0, 0));
        Check.due("nothing on the right point", 0, desk.loadOn(0, 1));
        Check.due("centre at the right point", 100, desk.fix(0, 0, 1, 13, 60));
        Check.due("nothing on the left point", 0, desk.loadOn(0, 0));
        Check.due("all on the right point", 160, desk.loadOn(0, 1));
        desk.fix(0, 0, 1, 11, 1);
        Check.due("33 * 1.01 is rounded up", 34, desk.loadOn(0, 1));
        Check.due("67 * 1.01 is rounded up", 68, desk.loadOn(0, 0));
        desk.addPiece(10, 10, 1, 0);
        Check.due("a part of 1", 1, desk.fix(2, 0, 2, 15, 1));
        Check.due("1 * 1.01 is rounded up", 2, desk.loadOn(2, 2));
        desk.fix(0, 0, 1, 11, 60);
        Check.due("33 * 1.6 is rounded up", 53, desk.loadOn(0, 1));
        Check.due("67 * 1.6 is rounded up", 108, desk.loadOn(0, 0));
        Check.due("a wide fixing", 2000 * 49 / 50, desk.fix(1, 0, 2, 59, 50));
        Check.due("1960 * 1.5", 2940, desk.loadOn(1, 2));
        Check.due("40 * 1.5", 60, desk.loadOn(1, 0));
        Check.due("a point at the same place is another", 0, desk.loadOn(1, 3));
    }

    private static void fixOnPointsNumberedBackwards() {
        Stagecargo desk = new Stagecargo();
        desk.addPoint(10, 100);
        desk.addPoint(0, 100);
        desk.addPiece(100, 10, 1, 0);
        Check.due("part of point 0 on the right", 30, desk.fix(0, 1, 0, 3, 0));
        Check.due("load on point 0", 30, desk.loadOn(0, 0));
        Check.due("load on point 1", 70, desk.loadOn(0, 1));
        desk.addTown(70, 30, 5, 60);
        desk.addTown(69, 30, 5, 60);
        desk.come(1);
        Check.dueChar("one more than the left point may bear", 'l', desk.reason(0));
        desk.fix(0, 1, 0, 7, 0);
        Check.dueChar("one more than the right point may bear", 'l', desk.reason(0));
        desk.come(0);
        desk.hang(0);
        Check.due("point 0 bears", 70, desk.bears(0));
        Check.due("point 1 bears", 30, desk.bears(1));
        desk.takeDown();
        Check.due("nothing hangs", 0, desk.hung());
        Check.due("point 0 bears nothing", 0, desk.bears(0));
    }

    private static void fixReplaces() {
        Stagecargo desk = Shows.withPoints();
        desk.addPiece(100, 10, 1, 0);
        desk.fix(0, 0, 1, 10, 0);
        Check.due("the first fixing", 50, desk.loadOn(0, 0));
        Check.due("a fixing in its place", 75, desk.fix(0, 1, 2, 35, 0));
        Check.due("nothing is left at the old left point", 0, desk.loadOn(0, 0));
        Check.due("the old right point is the new left one", 25, desk.loadOn(0, 1));
        Check.due("the new right point", 75, desk.loadOn(0, 2));
        desk.addTown(100, 30, 5, 60);
        desk.come(0);
        desk.hang(0);
        Check.due("the old point bears nothing", 0, desk.bears(0));
        Check.due("the new point bears", 75, desk.bears(2));
        desk.takeDown();
        Check.due("after taking down it may be fixed", 50, desk.fix(0, 0, 2, 20, 0));
    }

    private static void fixRefuses() {
        Stagecargo desk = Shows.oneHung();
        Check.thrown("no piece", NoSuchElementException.class, () -> desk.fix(3, 0, 1, 5, 0));
        Check.thrown("no piece before no point", NoSuchElementException.class, () -> desk.fix(-1, 2, 9, 99, 99));
        Check.thrown("no left point", IndexOutOfBoundsException.class, () -> desk.fix(1, 2, 1, 5, 0));
        Check.thrown("no right point", IndexOutOfBoundsException.class, () -> desk.fix(1, 0, 2, 5, 0));
        Check.thrown("left point -1", IndexOutOfBoundsException.class, () -> desk.fix(1, -1, 1, 5, 0));
        Check.thrown("right point -1", IndexOutOfBoundsException.class, () -> desk.fix(1, 0, -1, 5, 0));
        Check.thrown("no point before a wrong angle", IndexOutOfBoundsException.class, () -> desk.fix(0, 0, 2, 5, 61));
        Check.thrown("points the wrong way round", IllegalArgumentException.class, () -> desk.fix(1, 1, 0, 5, 0));
        Check.thrown("twice the same point", IllegalArgumentException.class, () -> desk.fix(1, 0, 0, 0, 0));
        Check.thrown("centre left of both", IllegalArgumentException.class, () -> desk.fix(1, 0, 1, -1, 0));
        Check.thrown("centre right of both", IllegalArgumentException.class, () -> desk.fix(1, 0, 1, 11, 0));
        Check.thrown("angle -1", IllegalArgumentException.class, () -> desk.fix(1, 0, 1, 5, -1));
        Check.thrown("angle 61", IllegalArgumentException.class, () -> desk.fix(1, 0, 1, 5, 61));
        Check.thrown("a wrong angle before hung", IllegalArgumentException.class, () -> desk.fix(0, 0, 1, 5, 61));
        Check.thrown("a wrong centre before hung", IllegalArgumentException.class, () -> desk.fix(0, 0, 1, 11, 0));
        Check.thrown("hung", IllegalStateException.class, () -> desk.fix(0, 0, 1, 5, 0));
        for (int far : FAR) {
            Check.thrown("far centre", IllegalArgumentException.class, () -> desk.fix(1, 0, 1, far, 0));
            Check.thrown("far angle", IllegalArgumentException.class, () -> desk.fix(1, 0, 1, 5, far));
        }
        desk.addPoint(10, 100);
        Check.thrown("points at the same place", IllegalArgumentException.class, () -> desk.fix(1, 1, 2, 10, 0));
        Stagecargo hung = Shows.oneHung();
        Check.refused(hung, "fix of a hung piece", IllegalStateException.class, () -> hung.fix(0, 0, 1, 0, 60));
        Stagecargo other = Shows.oneHung();
        Check.refused(other, "fix with a wrong angle", IllegalArgumentException.class, () -> other.fix(1, 0, 1, 0, 61));
    }

    private static void needAnswers() {
        Stagecargo desk = Shows.lightIn(480, 5, 1440, 5, 5, 5, 5, 5, 5);
        Check.due("first need", 1, desk.need(0, 1));
        Check.due("second need", 2, desk.need(0, 5));
        Check.due("the same need again", 2, desk.need(0, 1));
        Check.due("needs of a needed piece are its own", 1, desk.need(1, 2));
        Check.due("and are not counted for the first", 2, desk.need(0, 5));
        Check.due("a need by two ways", 3, desk.need(0, 2));
        Check.dueChar("0 waits", 'n', desk.reason(0));
        Check.dueChar("1 waits", 'n', desk.reason(1));
        Check.dueChar("2 does not", '-', desk.reason(2));
        Shows.hangAll(desk, 2, 1);
        Check.dueChar("one need is left", 'n', desk.reason(0));
        Check.due("a hung piece may be needed", 1, desk.need(4, 1));
        desk.hang(5);
        Check.dueChar("none is left", '-', desk.reason(0));
    }

    private static void needRefuses() {
        Stagecargo desk = Shows.lightIn(480, 5, 1440, 5, 5, 5, 5, 5, 5);
        Check.thrown("need(6, 0)", NoSuchElementException.class, () -> desk.need(6, 0));
        Check.thrown("need(0, 6)", NoSuchElementException.class, () -> desk.need(0, 6));
        Check.thrown("need(-1, 0)", NoSuchElementException.class, () -> desk.need(-1, 0));
        Check.thrown("need(0, -1)", NoSuchElementException.class, () -> desk.need(0, -1));
        Check.thrown("no piece before the same", NoSuchElementException.class, () -> desk.need(6, 6));
        Check.thrown("need(0, 0)", IllegalArgumentException.class, () -> desk.need(0, 0));
        for (int i = 0; i < 5; i++) {
            desk.need(i, i + 1);
        }
        for (int i = 0; i < 5; i++) {
            int other = i;
            Check.thrown("a ring up to " + i, UnsupportedOperationException.class, () -> desk.need(5, other));
        }
        Check.due("what was refused is not needed", 1, desk.need(4, 5));
        Check.dueChar("the last one of the chain needs none", '-', desk.reason(5));
        Check.due("a short cut is no ring", 2, desk.need(0, 5));
        desk.hang(5);
        Check.thrown("hung", IllegalStateException.class, () -> Shows.oneHung().need(0, 2));
        Check.thrown("a ring before hung", UnsupportedOperationException.class, () -> desk.need(5, 0));
        Check.thrown("the same before hung", IllegalArgumentException.class, () -> desk.need(5, 5));
        desk.hang(4);
        Check.thrown("hung, though needed already", IllegalStateException.class, () -> desk.need(4, 5));

        Stagecargo down = Shows.light(5, 5, 5, 5, 5, 5);
        for (int i = 5; i > 0; i--) {
            down.need(i, i - 1);
        }
        Check.thrown("a ring of all, downwards", UnsupportedOperationException.class, () -> down.need(0, 5));

        Stagecargo mixed = Shows.light(5, 5, 5);
        mixed.need(1, 0);
        mixed.need(0, 2);
        Check.thrown("a ring by way of piece 0", UnsupportedOperationException.class, () -> mixed.need(2, 1));

        Stagecargo ring = Shows.oneHung();
        Check.refused(ring, "need that makes a ring", UnsupportedOperationException.class, () -> ring.need(0, 1));
        Stagecargo hung = Shows.oneHung();
        Check.refused(hung, "need of a hung piece", IllegalStateException.class, () -> hung.need(0, 2));
        hung.takeDown();
        Check.due("after taking down it may need", 1, hung.need(0, 2));
    }

    private static void setArrival() {
        Stagecargo desk = Shows.lightIn(480, 5, 1440, 10, 10, 10);
        Check.due("first arrival", 0, desk.setArrival(1, 1440));
        Check.due("second arrival", 1440, desk.setArrival(1, 30));
        Check.due("back to 0", 30, desk.setArrival(1, 0));
        Check.due("another truck", 0, desk.setArrival(2, 25));
        Check.due("the truck 0", 0, desk.setArrival(0, 9));
        Check.due("begins when the truck arrives", 35, desk.hang(2));
        Check.due("a truck of which nothing hangs", 9, desk.setArrival(0, 50));
        Check.due("begins at the new arrival", 60, desk.hang(0));
        desk.takeDown();
        desk.takeDown();
        Check.due("free again when taken down", 25, desk.setArrival(2, 0));
        desk.addTown(100, 30, 5, 60);
        desk.come(1);
        Check.due("coming to a town leaves the arrivals", 50, desk.setArrival(0, 1));
    }

    private static void setArrivalRefuses() {
        Stagecargo desk = Shows.oneHung();
        Check.thrown("truck -1", IndexOutOfBoundsException.class, () -> desk.setArrival(-1, 0));
        Check.thrown("truck 3", IndexOutOfBoundsException.class, () -> desk.setArrival(3, 0));
        Check.thrown("no truck before a wrong minute", IndexOutOfBoundsException.class, () -> desk.setArrival(3, -1));
        Check.thrown("minute -1", IllegalArgumentException.class, () -> desk.setArrival(1, -1));
        Check.thrown("minute 1441", IllegalArgumentException.class, () -> desk.setArrival(1, 1441));
        Check.thrown("a wrong minute before hung", IllegalArgumentException.class, () -> desk.setArrival(0, 1441));
        Check.thrown("hung", IllegalStateException.class, () -> desk.setArrival(0, 0));
        for (int far : FAR) {
            Check.thrown("far truck", IndexOutOfBoundsException.class, () -> desk.setArrival(far, 0));
            Check.thrown("far minute", IllegalArgumentException.class, () -> desk.setArrival(1, far));
        }
        Check.due("nothing was set", 0, desk.setArrival(1, 0));
        desk.hang(1);
        Check.thrown("the first of two hung", IllegalStateException.class, () -> desk.setArrival(0, 5));
        Check.thrown("the second of two hung", IllegalStateException.class, () -> desk.setArrival(1, 5));
        Stagecargo hung = Shows.oneHung();
        Check.refused(hung, "setArrival of a hung piece", IllegalStateException.class, () -> hung.setArrival(0, 100));
        hung.takeDown();
        Check.due("the arrival is the old one", 0, hung.setArrival(0, 100));
        Stagecargo many = Shows.lightIn(480, 5, 1440, 5, 5, 5, 5);
        many.hang(3);
        Check.thrown("a later piece of the truck is hung", IllegalStateException.class, () -> many.setArrival(0, 5));
    }

    private static void addTown() {
        Stagecargo desk = Shows.withPoints();
        int[][] wrong = {{9, 30, 5, 60}, {101, 30, 5, 60}, {10, 29, 5, 60}, {10, 481, 5, 60},
                {10, 30, 4, 60}, {10, 30, 121, 60}, {10, 30, 5, 59}, {10, 30, 5, 1441}};
        for (int[] w : wrong) {
            Check.thrown("addTown(" + w[0] + ", " + w[1] + ", " + w[2] + ", " + w[3] + ")",
                    IllegalArgumentException.class, () -> desk.addTown(w[0], w[1], w[2], w[3]));
        }
        for (int far : FAR) {
            Check.thrown("far allowance", IllegalArgumentException.class, () -> desk.addTown(far, 30, 5, 60));
            Check.thrown("far stretch", IllegalArgumentException.class, () -> desk.addTown(10, far, 5, 60));
            Check.thrown("far pause", IllegalArgumentException.class, () -> desk.addTown(10, 30, far, 60));
            Check.thrown("far curfew", IllegalArgumentException.class, () -> desk.addTown(10, 30, 5, far));
        }
        int[][] good = {{10, 30, 5, 60}, {100, 480, 120, 1440}, {10, 480, 5, 1440}, {50, 30, 120, 60}};
        for (int i = 0; i < good.length; i++) {
            Check.due("addTown number " + i, i, desk.addTown(good[i][0], good[i][1], good[i][2], good[i][3]));
        }
        Check.thrown("a fifth town", IllegalStateException.class, () -> desk.addTown(10, 30, 5, 60));
        Check.thrown("a fifth town, out of range", IllegalArgumentException.class, () -> desk.addTown(9, 30, 5, 60));
        Check.thrown("adding does not bring the show there", NoSuchElementException.class, desk::town);
        for (int i = 0; i < good.length; i++) {
            desk.come(i);
            Check.due("allowance of town " + i, 1000 * good[i][0] / 100, desk.mayBear(0));
        }
        Stagecargo free = Shows.lightIn(480, 5, 1440, 60);
        free.hang(0);
        Check.due("rates are 0 at first", 0, free.cost());
        Check.due("rates are 0 at first, by minutes", 0, free.costByMinutes());
    }

    private static void setRates() {
        Stagecargo desk = Shows.lightIn(480, 5, 1440, 60);
        desk.addTown(100, 480, 5, 1440);
        desk.hang(0);
        Check.due("the first rate was 0", 0, desk.setRates(0, 3, 40, 7));
        Check.due("rates count for what hangs", 40 * 3 + 20 * 7, desk.cost());
        Check.due("the rate before", 3, desk.setRates(0, 99, 1440, 99));
        Check.due("the highest rates", 60 * 99, desk.cost());
        Check.due("another town has its own", 0, desk.setRates(1, 8, 0, 0));
        Check.due("which does not count here", 60 * 99, desk.cost());
        Check.due("the rate before again", 99, desk.setRates(0, 0, 0, 2));
        Check.due("overtime from the first minute", 120, desk.cost());
        desk.setRates(0, 1, 1, 50);
        Check.due("overtime from the second minute", 1 + 59 * 50, desk.cost());
        Check.due("the rate of the other town", 8, desk.setRates(1, 0, 0, 0));
    }

    private static void setRatesRefuses() {
        Stagecargo desk = Shows.oneHung();
        Check.thrown("town -1", NoSuchElementException.class, () -> desk.setRates(-1, 0, 0, 0));
        Check.thrown("town 1", NoSuchElementException.class, () -> desk.setRates(1, 0, 0, 0));
        Check.thrown("no town before a wrong rate", NoSuchElementException.class, () -> desk.setRates(1, -1, 0, 0));
        for (int far : FAR) {
            Check.thrown("far town", NoSuchElementException.class, () -> desk.setRates(far, 0, 0, 0));
            Check.thrown("far rate", IllegalArgumentException.class, () -> desk.setRates(0, far, 0, 0));
            Check.thrown("far overtime", IllegalArgumentException.class, () -> desk.setRates(0, 0, far, 0));
            Check.thrown("far overtime rate", IllegalArgumentException.class, () -> desk.setRates(0, 0, 0, far));
        }
        Check.thrown("rate 100", IllegalArgumentException.class, () -> desk.setRates(0, 100, 0, 0));
        Check.thrown("overtime 1441", IllegalArgumentException.class, () -> desk.setRates(0, 0, 1441, 0));
        Check.thrown("overtime rate 100", IllegalArgumentException.class, () -> desk.setRates(0, 0, 0, 100));
        Stagecargo other = Shows.oneHung();
        Check.refused(other, "setRates with a wrong overtime rate", IllegalArgumentException.class,
                () -> other.setRates(0, 9, 9, 100));
    }

    private static void come() {
        Stagecargo desk = Shows.lightIn(480, 5, 1440, 10, 20, 30);
        desk.addTown(100, 480, 5, 200);
        desk.need(1, 0);
        Shows.hangAll(desk, 0, 1);
        Check.due("two were hung", 2, desk.come(0));
        Check.due("nothing hangs", 0, desk.hung());
        Check.due("it is minute 0", 0, desk.end());
        Check.due("no work", 0, desk.work());
        Check.due("no point bears anything", 0, desk.bears(0));
        Check.dueChar("the needs stay", 'n', desk.reason(1));
        Check.dueChar("the piece is free", '-', desk.reason(0));
        Check.due("begins at minute 0", 30, desk.hang(2));
        Check.due("one was hung", 1, desk.come(1));
        Check.due("the other town", 1, desk.town());
        Check.due("none was hung", 0, desk.come(1));
        Check.due("the worth begins anew", 15, desk.bestWorth());
        Check.thrown("come(2)", NoSuchElementException.class, () -> desk.come(2));
        for (int far : FAR) {
            Check.thrown("far town", NoSuchElementException.class, () -> desk.come(far));
        }
        Stagecargo hung = Shows.oneHung();
        Check.refused(hung, "come to no town", NoSuchElementException.class, () -> hung.come(1));
    }
}
