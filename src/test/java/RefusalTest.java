import java.util.NoSuchElementException;

/**
 * Every line of the document that begins with "Throws", in its order: each way to break it, which exception is
 * thrown where several apply, and that the call changes nothing.
 */
public final class RefusalTest {
    private static final Class<? extends RuntimeException> ARGUMENT = IllegalArgumentException.class;
    private static final Class<? extends RuntimeException> STATE = IllegalStateException.class;
    private static final Class<? extends RuntimeException> INDEX = IndexOutOfBoundsException.class;
    private static final Class<? extends RuntimeException> ELEMENT = NoSuchElementException.class;
    private static final Class<? extends RuntimeException> RING = UnsupportedOperationException.class;
    private static final Class<? extends RuntimeException> NUMBER = ArithmeticException.class;

    private static final Check.Made NEW = Stagecargo::new;
    private static final Check.Made ROAD = Shows::onTheRoad;
    private static final Check.Made BUSY = Shows::busy;
    private static final Check.Made FULL = Shows::full;
    private static final Check.Made HUNG = Shows::fullAndHung;

    private interface CallWith {
        void call(Stagecargo desk, int value);
    }

    public static void main(String[] args) {
        addPoint();
        addPiece();
        fixElementAndIndex();
        fixArgument();
        fixState();
        needElementAndArgument();
        needRing();
        needLongRings();
        needState();
        setArrival();
        addTown();
        setRates();
        comeAndTown();
        loadOnMayBearBears();
        reasonAndHang();
        hangForEachReason();
        takeDown();
        hungAtAndBeginOf();
        bestAt();
        figures();
        Check.finish("RefusalTest");
    }

    /** The numbers next to the range and the farthest ones, each on a desk of its own. */
    private static void beyond(String what, Check.Made made, int least, int greatest,
            Class<? extends RuntimeException> due, CallWith call) {
        int[] values = {Integer.MIN_VALUE, least - 1, greatest + 1, Integer.MAX_VALUE};
        for (int value : values) {
            Check.refused(what + " " + value, made, due, desk -> call.call(desk, value));
        }
    }

    private static void addPoint() {
        Check.promise(2, "Throws IllegalArgumentException");
        beyond("place", BUSY, 0, 60, ARGUMENT, (desk, place) -> desk.addPoint(place, 100));
        beyond("limit", BUSY, 100, 5000, ARGUMENT, (desk, limit) -> desk.addPoint(0, limit));
        beyond("both", NEW, 0, 60, ARGUMENT, (desk, both) -> desk.addPoint(both, both));
        beyond("place, before 8 points", FULL, 0, 60, ARGUMENT, (desk, place) -> desk.addPoint(place, 100));
        beyond("limit, before 8 points", HUNG, 100, 5000, ARGUMENT, (desk, limit) -> desk.addPoint(0, limit));
        Check.promise(2, "Throws IllegalStateException");
        Check.refused("8 points", FULL, STATE, desk -> desk.addPoint(0, 100));
        Check.refused("8 points and pieces on them", HUNG, STATE, desk -> desk.addPoint(60, 5000));
    }

    private static void addPiece() {
        Check.promise(3, "Throws IllegalArgumentException");
        Check.Made[] all = {BUSY, FULL};
        for (Check.Made made : all) {
            beyond("weight", made, 10, 2000, ARGUMENT, (desk, weight) -> desk.addPiece(weight, 5, 1, 0));
            beyond("minutes", made, 5, 240, ARGUMENT, (desk, minutes) -> desk.addPiece(10, minutes, 1, 0));
            beyond("worth", made, 1, 99, ARGUMENT, (desk, worth) -> desk.addPiece(10, 5, worth, 0));
            beyond("truck", made, 0, 2, ARGUMENT, (desk, truck) -> desk.addPiece(10, 5, 1, truck));
        }
        Check.promise(3, "Throws IllegalStateException");
        Check.refused("6 pieces", FULL, STATE, desk -> desk.addPiece(10, 5, 1, 0));
        Check.refused("6 pieces that hang", HUNG, STATE, desk -> desk.addPiece(2000, 240, 99, 2));
    }

    private static void fixElementAndIndex() {
        Check.promise(4, "Throws NoSuchElementException");
        beyond("piece", BUSY, 0, 3, ELEMENT, (desk, piece) -> desk.fix(piece, 0, 1, 5, 0));
        beyond("piece, before points", BUSY, 0, 3, ELEMENT, (desk, piece) -> desk.fix(piece, -1, 9, 5, 0));
        beyond("piece, before the centre", BUSY, 0, 3, ELEMENT, (desk, piece) -> desk.fix(piece, 0, 1, 21, 0));
        beyond("piece, before the angle", BUSY, 0, 3, ELEMENT, (desk, piece) -> desk.fix(piece, 1, 0, 5, 61));
        Check.refused("no pieces and no points", NEW, ELEMENT, desk -> desk.fix(0, 0, 1, 0, 0));
        Check.promise(4, "Throws IndexOutOfBoundsException");
        beyond("left", BUSY, 0, 3, INDEX, (desk, left) -> desk.fix(2, left, 2, 20, 0));
        beyond("right", BUSY, 0, 3, INDEX, (desk, right) -> desk.fix(2, 0, right, 20, 0));
        beyond("both", BUSY, 0, 3, INDEX, (desk, both) -> desk.fix(2, both, both, 20, 0));
        beyond("left, before the centre", BUSY, 0, 3, INDEX, (desk, left) -> desk.fix(2, left, 2, 61, 0));
        beyond("right, before the angle", BUSY, 0, 3, INDEX, (desk, right) -> desk.fix(2, 0, right, 20, -1));
        beyond("left, before hung", BUSY, 0, 3, INDEX, (desk, left) -> desk.fix(0, left, 2, 20, 0));
        beyond("right, before hung", BUSY, 0, 3, INDEX, (desk, right) -> desk.fix(0, 0, right, 20, 0));
        Check.refused("no points", Shows::withoutPoints, INDEX, desk -> desk.fix(0, 0, 1, 0, 0));
    }

    private static void fixArgument() {
        Check.promise(4, "Throws IllegalArgumentException");
        Check.refused("the points the wrong way round", BUSY, ARGUMENT, desk -> desk.fix(2, 2, 0, 20, 0));
        Check.refused("twice the same point", BUSY, ARGUMENT, desk -> desk.fix(2, 1, 1, 20, 0));
        Check.refused("points at the same place", BUSY, ARGUMENT, desk -> desk.fix(2, 1, 3, 20, 0));
        Check.refused("the same the other way round", BUSY, ARGUMENT, desk -> desk.fix(2, 3, 1, 20, 0));
        beyond("centre", BUSY, 20, 40, ARGUMENT, (desk, centre) -> desk.fix(2, 1, 2, centre, 0));
        beyond("angle", BUSY, 0, 60, ARGUMENT, (desk, angle) -> desk.fix(2, 1, 2, 30, angle));
        Check.refused("the wrong way round, before hung", BUSY, ARGUMENT, desk -> desk.fix(0, 2, 0, 20, 0));
        beyond("centre, before hung", BUSY, 20, 40, ARGUMENT, (desk, centre) -> desk.fix(0, 1, 2, centre, 0));
        beyond("angle, before hung", BUSY, 0, 60, ARGUMENT, (desk, angle) -> desk.fix(1, 1, 2, 30, angle));
        beyond("angle, without a fixing", ROAD, 0, 60, ARGUMENT, (desk, angle) -> desk.fix(3, 1, 2, 30, angle));
    }

    private static void fixState() {
        Check.promise(4, "Throws IllegalStateException");
        Check.refused("hung first", BUSY, STATE, desk -> desk.fix(0, 0, 1, 20, 60));
        Check.refused("hung last", BUSY, STATE, desk -> desk.fix(1, 0, 1, 20, 60));
        Check.refused("hung, and the same fixing", BUSY, STATE, desk -> desk.fix(0, 0, 1, 5, 0));
        for (int piece = 0; piece < 6; piece++) {
            int number = piece;
            Check.refused("all hung, piece " + piece, HUNG, STATE, desk -> desk.fix(number, 0, 7, 0, 0));
        }
    }

    private static void needElementAndArgument() {
        Check.promise(5, "Throws NoSuchElementException");
        beyond("piece", BUSY, 0, 3, ELEMENT, (desk, piece) -> desk.need(piece, 0));
        beyond("other", BUSY, 0, 3, ELEMENT, (desk, other) -> desk.need(3, other));
        beyond("both, before the same", BUSY, 0, 3, ELEMENT, (desk, both) -> desk.need(both, both));
        beyond("other, before hung", BUSY, 0, 3, ELEMENT, (desk, other) -> desk.need(0, other));
        Check.refused("no pieces", NEW, ELEMENT, desk -> desk.need(0, 0));
        Check.promise(5, "Throws IllegalArgumentException");
        Check.refused("the first", BUSY, ARGUMENT, desk -> desk.need(0, 0));
        Check.refused("the last", BUSY, ARGUMENT, desk -> desk.need(3, 3));
        Check.refused("the same, before hung", BUSY, ARGUMENT, desk -> desk.need(1, 1));
        Check.refused("the last of six", FULL, ARGUMENT, desk -> desk.need(5, 5));
    }

    private static void needRing() {
        Check.promise(5, "Throws UnsupportedOperationException");
        Check.refused("needed itself", ROAD, RING, desk -> desk.need(0, 1));
        Check.refused("needed itself by the last", ROAD, RING, desk -> desk.need(1, 2));
        Check.refused("needed by a piece that is needed", ROAD, RING, desk -> desk.need(0, 2));
        Check.refused("a ring, before hung", BUSY, RING, desk -> desk.need(0, 1));
        Check.refused("a longer ring, before hung", BUSY, RING, desk -> desk.need(0, 2));
    }

    /** Chains of six in which each needs the next, the one before, and in a mixed order. */
    private static void needLongRings() {
        Check.promise(5, "Throws UnsupportedOperationException");
        int[][] chains = {{0, 1, 2, 3, 4, 5}, {5, 4, 3, 2, 1, 0}, {2, 5, 0, 4, 1, 3}, {3, 0, 5, 1, 4, 2}};
        for (int[] chain : chains) {
            Check.Made made = () -> chained(chain);
            for (int i = 0; i < 6; i++) {
                for (int j = i + 1; j < 6; j++) {
                    int piece = chain[j];
                    int other = chain[i];
                    Stagecargo desk = chained(chain);
                    Check.thrown("a ring of " + (j - i + 1), RING, () -> desk.need(piece, other));
                }
            }
            Check.refused("a ring of all", made, RING, desk -> desk.need(chain[5], chain[0]));
        }
        Stagecargo fork = Shows.full();
        fork.need(0, 1);
        fork.need(0, 2);
        fork.need(2, 3);
        fork.need(2, 4);
        Check.thrown("by the second of two needs, twice", RING, () -> fork.need(4, 0));
        Check.thrown("by the first of them", RING, () -> fork.need(1, 0));
        Check.due("and what makes no ring", 1, fork.need(4, 1));
    }

    private static Stagecargo chained(int[] chain) {
        Stagecargo desk = Shows.full();
        for (int i = 0; i + 1 < chain.length; i++) {
            desk.need(chain[i], chain[i + 1]);
        }
        return desk;
    }

    private static void needState() {
        Check.promise(5, "Throws IllegalStateException");
        Check.refused("hung first", BUSY, STATE, desk -> desk.need(0, 3));
        Check.refused("hung last", BUSY, STATE, desk -> desk.need(1, 3));
        Check.refused("hung, and needed already", BUSY, STATE, desk -> desk.need(1, 0));
        for (int piece = 0; piece < 6; piece++) {
            int number = piece;
            Check.refused("all hung, piece " + piece, HUNG, STATE, desk -> desk.need(number, (number + 1) % 6));
        }
    }

    private static void setArrival() {
        Check.promise(6, "Throws IndexOutOfBoundsException");
        beyond("truck", BUSY, 0, 2, INDEX, (desk, truck) -> desk.setArrival(truck, 100));
        beyond("truck, before the minute", BUSY, 0, 2, INDEX, (desk, truck) -> desk.setArrival(truck, 1441));
        beyond("truck of none", NEW, 0, 2, INDEX, (desk, truck) -> desk.setArrival(truck, -1));
        Check.promise(6, "Throws IllegalArgumentException");
        beyond("minute", BUSY, 0, 1440, ARGUMENT, (desk, minute) -> desk.setArrival(2, minute));
        beyond("minute, before hung", BUSY, 0, 1440, ARGUMENT, (desk, minute) -> desk.setArrival(0, minute));
        Check.promise(6, "Throws IllegalStateException");
        Check.refused("a piece of it is hung first", BUSY, STATE, desk -> desk.setArrival(0, 100));
        Check.refused("a piece of it is hung last", BUSY, STATE, desk -> desk.setArrival(1, 100));
        Check.refused("and the same minute", BUSY, STATE, desk -> desk.setArrival(1, 70));
        for (int piece = 0; piece < 6; piece++) {
            int number = piece;
            Check.refused("only piece " + piece + " hangs", () -> withOne(number), STATE,
                    desk -> desk.setArrival(number % 3, 1440));
        }
    }

    private static Stagecargo withOne(int piece) {
        Stagecargo desk = Shows.full();
        desk.come(3);
        desk.hang(piece);
        return desk;
    }

    private static void addTown() {
        Check.promise(7, "Throws IllegalArgumentException");
        Check.Made[] all = {BUSY, FULL};
        for (Check.Made made : all) {
            beyond("allowance", made, 10, 100, ARGUMENT, (desk, allowance) -> desk.addTown(allowance, 30, 5, 60));
            beyond("stretch", made, 30, 480, ARGUMENT, (desk, stretch) -> desk.addTown(10, stretch, 5, 60));
            beyond("pause", made, 5, 120, ARGUMENT, (desk, pause) -> desk.addTown(10, 30, pause, 60));
            beyond("curfew", made, 60, 1440, ARGUMENT, (desk, curfew) -> desk.addTown(10, 30, 5, curfew));
        }
        Check.promise(7, "Throws IllegalStateException");
        Check.refused("4 towns", FULL, STATE, desk -> desk.addTown(10, 30, 5, 60));
        Check.refused("4 towns, in the last of them", HUNG, STATE, desk -> desk.addTown(100, 480, 120, 1440));
    }

    private static void setRates() {
        Check.promise(8, "Throws NoSuchElementException");
        beyond("town", BUSY, 0, 1, ELEMENT, (desk, town) -> desk.setRates(town, 7, 7, 7));
        beyond("town, before the rate", BUSY, 0, 1, ELEMENT, (desk, town) -> desk.setRates(town, 100, 7, 7));
        beyond("town, before the overtime", BUSY, 0, 1, ELEMENT, (desk, town) -> desk.setRates(town, 7, -1, 7));
        beyond("town, before the overtime rate", BUSY, 0, 1, ELEMENT, (desk, town) -> desk.setRates(town, 7, 7, 100));
        Check.refused("no towns", NEW, ELEMENT, desk -> desk.setRates(0, 0, 0, 0));
        Check.promise(8, "Throws IllegalArgumentException");
        for (int i = 0; i < 2; i++) {
            int town = i;
            beyond("rate", BUSY, 0, 99, ARGUMENT, (desk, rate) -> desk.setRates(town, rate, 7, 7));
            beyond("overtime", BUSY, 0, 1440, ARGUMENT, (desk, overtime) -> desk.setRates(town, 7, overtime, 7));
            beyond("overtime rate", BUSY, 0, 99, ARGUMENT, (desk, rate) -> desk.setRates(town, 7, 7, rate));
        }
    }

    private static void comeAndTown() {
        Check.promise(9, "Throws NoSuchElementException");
        beyond("town", BUSY, 0, 1, ELEMENT, Stagecargo::come);
        beyond("town of four", HUNG, 0, 3, ELEMENT, Stagecargo::come);
        beyond("town, in no town", ROAD, 0, 1, ELEMENT, Stagecargo::come);
        Check.refused("no towns", NEW, ELEMENT, desk -> desk.come(0));
        Check.promise(10, "Throws NoSuchElementException");
        Check.refused("a new desk", NEW, ELEMENT, Stagecargo::town);
        Check.refused("in no town", ROAD, ELEMENT, Stagecargo::town);
        Check.refused("in none of four", FULL, ELEMENT, Stagecargo::town);
    }

    private static void loadOnMayBearBears() {
        Check.promise(11, "Throws NoSuchElementException");
        beyond("piece", BUSY, 0, 3, ELEMENT, (desk, piece) -> desk.loadOn(piece, 0));
        beyond("piece, before the point", BUSY, 0, 3, ELEMENT, (desk, both) -> desk.loadOn(both, both));
        Check.refused("no pieces", Shows::withoutPieces, ELEMENT, desk -> desk.loadOn(0, 0));
        Check.promise(11, "Throws IndexOutOfBoundsException");
        beyond("point", BUSY, 0, 3, INDEX, (desk, point) -> desk.loadOn(0, point));
        beyond("point, without a fixing", BUSY, 0, 3, INDEX, (desk, point) -> desk.loadOn(3, point));
        Check.refused("no points", Shows::withoutPoints, INDEX, desk -> desk.loadOn(0, 0));
        Check.promise(12, "Throws IndexOutOfBoundsException");
        beyond("point", BUSY, 0, 3, INDEX, Stagecargo::mayBear);
        beyond("point, before no town", ROAD, 0, 3, INDEX, Stagecargo::mayBear);
        Check.refused("no points and no town", NEW, INDEX, desk -> desk.mayBear(0));
        Check.promise(12, "Throws IllegalStateException");
        for (int point = 0; point < 8; point++) {
            int number = point;
            Check.refused("in no town, point " + point, FULL, STATE, desk -> desk.mayBear(number));
        }
        Check.promise(13, "Throws IndexOutOfBoundsException");
        beyond("point", BUSY, 0, 3, INDEX, Stagecargo::bears);
        beyond("point, in no town", FULL, 0, 7, INDEX, Stagecargo::bears);
        Check.refused("no points", NEW, INDEX, desk -> desk.bears(0));
    }

    private static void reasonAndHang() {
        Check.promise(14, "Throws NoSuchElementException");
        beyond("piece", BUSY, 0, 3, ELEMENT, Stagecargo::reason);
        beyond("piece, in no town", FULL, 0, 5, ELEMENT, Stagecargo::reason);
        Check.refused("no pieces", Shows::withoutPieces, ELEMENT, desk -> desk.reason(0));
        Check.promise(15, "Throws NoSuchElementException");
        beyond("piece", BUSY, 0, 3, ELEMENT, Stagecargo::hang);
        beyond("piece of six that hang", HUNG, 0, 5, ELEMENT, Stagecargo::hang);
        beyond("piece, before no town", ROAD, 0, 3, ELEMENT, Stagecargo::hang);
        Check.refused("no pieces", NEW, ELEMENT, desk -> desk.hang(0));
    }

    private static void hangForEachReason() {
        Check.promise(15, "Throws IllegalStateException");
        Check.refused("no town", ROAD, STATE, desk -> desk.hang(0));
        Check.refused("hung first", BUSY, STATE, desk -> desk.hang(0));
        Check.refused("hung last", BUSY, STATE, desk -> desk.hang(1));
        Check.refused("no fixing", BUSY, STATE, desk -> desk.hang(3));
        Check.refused("a need", RefusalTest::withFour, STATE, desk -> desk.hang(1));
        Check.refused("longer than the stretch", RefusalTest::withFour, STATE, desk -> desk.hang(2));
        Check.refused("too heavy", RefusalTest::withFour, STATE, desk -> desk.hang(3));
        Check.refused("too late", RefusalTest::withFour, STATE, desk -> desk.hang(4));
        Check.dueChar("a need", 'n', withFour().reason(1));
        Check.dueChar("longer than the stretch", 's', withFour().reason(2));
        Check.dueChar("too heavy", 'l', withFour().reason(3));
        Check.dueChar("too late", 'c', withFour().reason(4));
        for (int piece = 0; piece < 6; piece++) {
            int number = piece;
            Check.refused("all hung, piece " + piece, HUNG, STATE, desk -> desk.hang(number));
        }
    }

    /** Piece 5 hangs till 35; 0 might come next, 1 needs it, 2 is too long, 3 too heavy and 4 too late. */
    private static Stagecargo withFour() {
        Stagecargo desk = Shows.light(10, 10, 61, 10, 60, 35);
        desk.addPoint(20, 100);
        desk.fix(3, 0, 2, 20, 1);
        desk.need(1, 0);
        desk.addTown(10, 60, 20, 100);
        desk.come(0);
        desk.hang(5);
        return desk;
    }

    private static void takeDown() {
        Check.promise(16, "Throws IllegalStateException");
        Check.refused("a new desk", NEW, STATE, Stagecargo::takeDown);
        Check.refused("in no town", FULL, STATE, Stagecargo::takeDown);
        Check.refused("nothing was hung", RefusalTest::emptyTown, STATE, Stagecargo::takeDown);
        Stagecargo desk = Shows.busy();
        desk.takeDown();
        desk.takeDown();
        Check.thrown("all was taken down", STATE, desk::takeDown);
        Stagecargo come = Shows.busy();
        come.come(1);
        Check.thrown("the show came to the town anew", STATE, come::takeDown);
    }

    private static Stagecargo emptyTown() {
        Stagecargo desk = Shows.onTheRoad();
        desk.come(1);
        return desk;
    }

    private static void hungAtAndBeginOf() {
        Check.promise(18, "Throws IndexOutOfBoundsException");
        beyond("index", BUSY, 0, 1, INDEX, Stagecargo::hungAt);
        beyond("index of six", HUNG, 0, 5, INDEX, Stagecargo::hungAt);
        Check.refused("nothing hangs", RefusalTest::emptyTown, INDEX, desk -> desk.hungAt(0));
        Check.refused("in no town", FULL, INDEX, desk -> desk.hungAt(0));
        Check.refused("a new desk", NEW, INDEX, desk -> desk.hungAt(0));
        Check.promise(19, "Throws NoSuchElementException");
        beyond("piece", BUSY, 0, 3, ELEMENT, Stagecargo::beginOf);
        beyond("piece of six", HUNG, 0, 5, ELEMENT, Stagecargo::beginOf);
        Check.refused("not hung", BUSY, ELEMENT, desk -> desk.beginOf(2));
        Check.refused("not hung, and without a fixing", BUSY, ELEMENT, desk -> desk.beginOf(3));
        Check.refused("nothing hangs", RefusalTest::emptyTown, ELEMENT, desk -> desk.beginOf(0));
        Check.refused("in no town", FULL, ELEMENT, desk -> desk.beginOf(5));
        Check.refused("a new desk", NEW, ELEMENT, desk -> desk.beginOf(0));
    }

    private static void bestAt() {
        Check.promise(29, "Throws IndexOutOfBoundsException");
        beyond("index", BUSY, 0, 2, INDEX, Stagecargo::bestAt);
        beyond("index of six", HUNG, 0, 5, INDEX, Stagecargo::bestAt);
        Check.refused("in no town", FULL, INDEX, desk -> desk.bestAt(0));
        Check.refused("a new desk", NEW, INDEX, desk -> desk.bestAt(0));
    }

    private static void figures() {
        Check.promise(32, "Throws IllegalStateException");
        Check.refused("in no town", FULL, STATE, Stagecargo::tightest);
        Check.refused("in no town, before no point", NEW, STATE, Stagecargo::tightest);
        Check.promise(32, "Throws NoSuchElementException");
        Check.refused("no point", Shows::withoutPoints, ELEMENT, Stagecargo::tightest);
        Check.promise(33, "Throws ArithmeticException");
        Check.refused("a new desk", NEW, NUMBER, Stagecargo::hungShare);
        Check.refused("no pieces", Shows::withoutPieces, NUMBER, Stagecargo::hungShare);
        Check.promise(34, "Throws ArithmeticException");
        Check.refused("a new desk", NEW, NUMBER, Stagecargo::meanLoad);
        Check.refused("no points", Shows::withoutPoints, NUMBER, Stagecargo::meanLoad);
    }
}
