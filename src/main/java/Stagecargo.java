import java.util.NoSuchElementException;

/** The rigging desk of a touring show. The document's promises say what each call answers. */
public final class Stagecargo {
    private static final int MAX_POINTS = 8;
    private static final int MAX_PIECES = 6;
    private static final int MAX_TOWNS = 4;
    private static final int TRUCKS = 3;
    private static final int NONE = -1;
    private static final char MAY_HANG = '-';

    // All rows are made here once and used again, so that no call makes an object.
    private final Point[] points = new Point[MAX_POINTS];
    private final Piece[] pieces = new Piece[MAX_PIECES];
    private final Town[] towns = new Town[MAX_TOWNS];
    private final int[] arrivals = new int[TRUCKS];
    private final Rig rig = new Rig();
    private final Rig trial = new Rig();
    private final Rig best = new Rig();
    private int pointCount = 0;
    private int pieceCount = 0;
    private int townCount = 0;
    private Town present = null;
    private int triedCount = 0;
    private int triedWorth = 0;

    public Stagecargo() {
        for (int i = 0; i < MAX_POINTS; i++) {
            points[i] = new Point();
        }
        for (int i = 0; i < MAX_PIECES; i++) {
            pieces[i] = new Piece();
        }
        for (int i = 0; i < MAX_TOWNS; i++) {
            towns[i] = new Town(i);
        }
    }

    // ---- What enters the show and the towns

    public int addPoint(int place, int limit) throws IllegalArgumentException, IllegalStateException {
        if (isOutside(place, 0, 60) || isOutside(limit, 100, 5000)) {
            throw new IllegalArgumentException("the place or the limit is out of range");
        }
        if (pointCount >= MAX_POINTS) {
            throw new IllegalStateException("there are 8 points");
        }
        int number = pointCount;
        points[number].place = place;
        points[number].limit = limit;
        pointCount = number + 1;
        return number;
    }

    public int addPiece(int weight, int minutes, int worth, int truck)
            throws IllegalArgumentException, IllegalStateException {
        if (isOutside(weight, 10, 2000) || isOutside(minutes, 5, 240)
                || isOutside(worth, 1, 99) || isOutside(truck, 0, TRUCKS - 1)) {
            throw new IllegalArgumentException("a number of the piece is out of range");
        }
        if (pieceCount >= MAX_PIECES) {
            throw new IllegalStateException("there are 6 pieces");
        }
        int number = pieceCount;
        Piece added = pieces[number];
        added.weight = weight;
        added.minutes = minutes;
        added.worth = worth;
        added.truck = truck;
        pieceCount = number + 1;
        return number;
    }

    public int fix(int piece, int left, int right, int centre, int angle)
            throws NoSuchElementException, IndexOutOfBoundsException, IllegalArgumentException,
            IllegalStateException {
        checkPiece(piece);
        checkPoint(left);
        checkPoint(right);
        int leftPlace = points[left].place;
        int rightPlace = points[right].place;
        int distance = rightPlace - leftPlace;
        if (distance <= 0 || isOutside(centre, leftPlace, rightPlace) || isOutside(angle, 0, 60)) {
            throw new IllegalArgumentException("the places, the centre or the angle do not fit");
        }
        checkNotHung(piece);
        Piece fixed = pieces[piece];
        int rightPart = fixed.weight * (centre - leftPlace) / distance;
        fixed.left = left;
        fixed.right = right;
        fixed.leftLoad = loadOfPart(fixed.weight - rightPart, angle);
        fixed.rightLoad = loadOfPart(rightPart, angle);
        return rightPart;
    }

    public int need(int piece, int other)
            throws NoSuchElementException, IllegalArgumentException, UnsupportedOperationException,
            IllegalStateException {
        checkPiece(piece);
        checkPiece(other);
        if (piece == other) {
            throw new IllegalArgumentException("a piece cannot need itself");
        }
        if (isIn(piece, allNeedsOf(other))) {
            throw new UnsupportedOperationException("the other piece needs this one");
        }
        checkNotHung(piece);
        pieces[piece].needs |= 1 << other;
        return Integer.bitCount(pieces[piece].needs);
    }

    public int setArrival(int truck, int minute)
            throws IndexOutOfBoundsException, IllegalArgumentException, IllegalStateException {
        if (isOutside(truck, 0, TRUCKS - 1)) {
            throw new IndexOutOfBoundsException("there is no such truck");
        }
        if (isOutside(minute, 0, 1440)) {
            throw new IllegalArgumentException("the minute is out of range");
        }
        if (isInUse(truck)) {
            throw new IllegalStateException("a piece of this truck is hung");
        }
        int before = arrivals[truck];
        arrivals[truck] = minute;
        return before;
    }

    public int addTown(int allowance, int stretch, int pause, int curfew)
            throws IllegalArgumentException, IllegalStateException {
        if (isOutside(allowance, 10, 100) || isOutside(stretch, 30, 480)
                || isOutside(pause, 5, 120) || isOutside(curfew, 60, 1440)) {
            throw new IllegalArgumentException("a number of the town is out of range");
        }
        if (townCount >= MAX_TOWNS) {
            throw new IllegalStateException("there are 4 towns");
        }
        int number = townCount;
        Town added = towns[number];
        added.allowance = allowance;
        added.stretch = stretch;
        added.pause = pause;
        added.curfew = curfew;
        townCount = number + 1;
        return number;
    }

    public int setRates(int town, int rate, int overtime, int overtimeRate)
            throws NoSuchElementException, IllegalArgumentException {
        checkTown(town);
        if (isOutside(rate, 0, 99) || isOutside(overtime, 0, 1440) || isOutside(overtimeRate, 0, 99)) {
            throw new IllegalArgumentException("a rate or the overtime is out of range");
        }
        Town changed = towns[town];
        int before = changed.rate;
        changed.rate = rate;
        changed.overtime = overtime;
        changed.overtimeRate = overtimeRate;
        return before;
    }

    // ---- Towns and points

    public int come(int town) throws NoSuchElementException {
        checkTown(town);
        int before = rig.size;
        rig.empty();
        present = towns[town];
        return before;
    }

    public int town() throws NoSuchElementException {
        Town town = present;
        if (town == null) {
            throw new NoSuchElementException("the show is in no town");
        }
        return town.number;
    }

    public int loadOn(int piece, int point) throws NoSuchElementException, IndexOutOfBoundsException {
        checkPiece(piece);
        checkPoint(point);
        return pieces[piece].loadAt(point);
    }

    public int mayBear(int point) throws IndexOutOfBoundsException, IllegalStateException {
        checkPoint(point);
        Town town = present;
        if (town == null) {
            throw new IllegalStateException("the show is in no town");
        }
        return town.allows(points[point]);
    }

    public int bears(int point) throws IndexOutOfBoundsException {
        checkPoint(point);
        return rig.loads[point];
    }

    // ---- The rig

    public char reason(int piece) throws NoSuchElementException {
        checkPiece(piece);
        return reasonAgainst(rig, piece);
    }

    public int hang(int piece) throws NoSuchElementException, IllegalStateException {
        checkPiece(piece);
        Town town = present;
        if (town == null || reasonAgainst(rig, piece) != MAY_HANG) {
            throw new IllegalStateException("the piece cannot be hung next");
        }
        putOn(rig, piece, town);
        return rig.lastMinute();
    }

    public int takeDown() throws IllegalStateException {
        if (rig.size <= 0) {
            throw new IllegalStateException("no piece is hung");
        }
        int number = rig.order[rig.size - 1];
        takeLastOff(rig);
        return number;
    }

    public int hung() {
        return rig.size;
    }

    public int hungAt(int index) throws IndexOutOfBoundsException {
        return pieceAt(rig, index);
    }

    public int beginOf(int piece) throws NoSuchElementException {
        int index = rig.indexOf(piece);
        if (index < 0) {
            throw new NoSuchElementException("there is no such piece, or it is not hung");
        }
        return rig.begins[index];
    }

    public int end() {
        return rig.lastMinute();
    }

    public int work() {
        return rig.workAtEnd();
    }

    public long cost() {
        return costByPieces(rig);
    }

    public long costByMinutes() {
        return costMinuteByMinute();
    }

    // ---- Completions

    public int bestWorth() {
        findBest();
        return best.worth;
    }

    public int bestByAll() {
        tryAllCompletions();
        return triedWorth;
    }

    public int bestEnd() {
        findBest();
        return best.lastMinute();
    }

    public int bestCost() {
        findBest();
        return costByPieces(best);
    }

    public int bestSize() {
        findBest();
        return best.size;
    }

    public int bestAt(int index) throws IndexOutOfBoundsException {
        findBest();
        return pieceAt(best, index);
    }

    public int complete() {
        findBest();
        int added = best.size - rig.size;
        rig.copyFrom(best);
        return added;
    }

    public int completions() {
        tryAllCompletions();
        return triedCount;
    }

    // ---- Figures and the check

    public int tightest() throws IllegalStateException, NoSuchElementException {
        Town town = present;
        if (town == null) {
            throw new IllegalStateException("the show is in no town");
        }
        if (pointCount == 0) {
            throw new NoSuchElementException("there is no point");
        }
        int found = 0;
        for (int i = 1; i < pointCount; i++) {
            if (leftAt(i, town) < leftAt(found, town)) {
                found = i;
            }
        }
        return found;
    }

    public float hungShare() throws ArithmeticException {
        if (pieceCount == 0) {
            throw new ArithmeticException("there are no pieces");
        }
        return (float) rig.size / (float) pieceCount;
    }

    public double meanLoad() throws ArithmeticException {
        if (pointCount == 0) {
            throw new ArithmeticException("there are no points");
        }
        int sum = 0;
        for (int i = 0; i < pointCount; i++) {
            sum += rig.loads[i];
        }
        return (double) sum / (double) pointCount;
    }

    public boolean isSound() {
        Town town = present;
        if (town == null) {
            return true;
        }
        findBest();
        tryAllCompletions();
        return noPointOverloaded(town) && needsHungBefore()
                && costByPieces(rig) == costMinuteByMinute() && best.worth == triedWorth;
    }

    // ---- Checks of arguments

    private static boolean isOutside(int value, int least, int greatest) {
        return value < least || value > greatest;
    }

    private void checkPoint(int point) {
        if (isOutside(point, 0, pointCount - 1)) {
            throw new IndexOutOfBoundsException("there is no such point");
        }
    }

    private void checkPiece(int piece) {
        if (isOutside(piece, 0, pieceCount - 1)) {
            throw new NoSuchElementException("there is no such piece");
        }
    }

    private void checkTown(int town) {
        if (isOutside(town, 0, townCount - 1)) {
            throw new NoSuchElementException("there is no such town");
        }
    }

    private void checkNotHung(int piece) {
        if (isIn(piece, rig.members)) {
            throw new IllegalStateException("the piece is hung");
        }
    }

    private static int pieceAt(Rig of, int index) {
        if (isOutside(index, 0, of.size - 1)) {
            throw new IndexOutOfBoundsException("there is no such piece");
        }
        return of.order[index];
    }

    // ---- Pieces and their points

    private static boolean isIn(int piece, int set) {
        return (set >> piece & 1) != 0;
    }

    private static int loadOfPart(int part, int angle) {
        return (part * (100 + angle) + 99) / 100;
    }

    private int allNeedsOf(int piece) {
        int found = pieces[piece].needs;
        // A chain of needs has fewer links than there are pieces.
        for (int round = 0; round < pieceCount; round++) {
            for (int i = 0; i < pieceCount; i++) {
                if (isIn(i, found)) {
                    found |= pieces[i].needs;
                }
            }
        }
        return found;
    }

    private boolean isInUse(int truck) {
        for (int i = 0; i < pieceCount; i++) {
            if (pieces[i].truck == truck && isIn(i, rig.members)) {
                return true;
            }
        }
        return false;
    }

    private int leftAt(int point, Town town) {
        return town.allows(points[point]) - rig.loads[point];
    }

    // ---- Hanging

    private char reasonAgainst(Rig on, int number) {
        Town town = present;
        if (town == null) {
            return 't';
        }
        if (isIn(number, on.members)) {
            return 'h';
        }
        Piece piece = pieces[number];
        if (!piece.isFixed()) {
            return 'f';
        }
        if ((piece.needs & ~on.members) != 0) {
            return 'n';
        }
        if (piece.minutes > town.stretch) {
            return 's';
        }
        if (overloads(on, piece, town)) {
            return 'l';
        }
        if (beginNext(on, piece, town) + piece.minutes > town.curfew) {
            return 'c';
        }
        return MAY_HANG;
    }

    private boolean overloads(Rig on, Piece piece, Town town) {
        int left = piece.left;
        int right = piece.right;
        if (left < 0 || right < 0) {
            return false;
        }
        return on.loads[left] + piece.leftLoad > town.allows(points[left])
                || on.loads[right] + piece.rightLoad > town.allows(points[right]);
    }

    /** The work with which a piece's own counts together if there is no pause before it. */
    private int workCarried(Rig on, Piece piece, Town town) {
        boolean waitIsBreak = arrivals[piece.truck] - on.lastMinute() >= town.pause;
        return waitIsBreak ? 0 : on.workAtEnd();
    }

    // A piece alone never asks for a pause here: one longer than the stretch is refused before.
    private int beginNext(Rig on, Piece piece, Town town) {
        int ready = Math.max(on.lastMinute(), arrivals[piece.truck]);
        boolean pauses = workCarried(on, piece, town) + piece.minutes > town.stretch;
        return pauses ? ready + town.pause : ready;
    }

    private int workNext(Rig on, Piece piece, Town town) {
        int together = workCarried(on, piece, town) + piece.minutes;
        return together > town.stretch ? piece.minutes : together;
    }

    private void putOn(Rig on, int number, Town town) {
        Piece piece = pieces[number];
        int index = on.size;
        if (index >= MAX_PIECES || piece.left < 0 || piece.right < 0) {
            return;
        }
        int begin = beginNext(on, piece, town);
        int work = workNext(on, piece, town);
        on.order[index] = number;
        on.begins[index] = begin;
        on.ends[index] = begin + piece.minutes;
        on.works[index] = work;
        on.loads[piece.left] += piece.leftLoad;
        on.loads[piece.right] += piece.rightLoad;
        on.members |= 1 << number;
        on.worth += piece.worth;
        on.size = index + 1;
    }

    private void takeLastOff(Rig of) {
        int index = of.size - 1;
        if (index < 0) {
            return;
        }
        int number = of.order[index];
        Piece piece = pieces[number];
        if (piece.left < 0 || piece.right < 0) {
            return;
        }
        of.loads[piece.left] -= piece.leftLoad;
        of.loads[piece.right] -= piece.rightLoad;
        of.members &= ~(1 << number);
        of.worth -= piece.worth;
        of.size = index;
    }

    // ---- Costs

    private int costByPieces(Rig of) {
        Town town = present;
        if (town == null) {
            return 0;
        }
        int sum = 0;
        for (int i = 0; i < of.size; i++) {
            int minutes = of.ends[i] - of.begins[i];
            int early = Math.max(0, Math.min(minutes, town.overtime - of.begins[i]));
            sum += early * town.rate + (minutes - early) * town.overtimeRate;
        }
        return sum;
    }

    private long costMinuteByMinute() {
        Town town = present;
        if (town == null) {
            return 0;
        }
        long sum = 0;
        int last = rig.lastMinute();
        for (int minute = 0; minute < last; minute++) {
            if (rig.isWorkedOn(minute)) {
                sum += minute < town.overtime ? town.rate : town.overtimeRate;
            }
        }
        return sum;
    }

    // ---- The search for the best completion

    private void findBest() {
        best.copyFrom(rig);
        Town town = present;
        if (town != null) {
            trial.copyFrom(rig);
            seekBest(this, town, 0);
        }
    }

    // Completions are met in the order of their pieces, so of equal ones the first met is the one to keep.
    private static void seekBest(Stagecargo desk, Town town, int depth) {
        if (desk.isBetter(desk.trial, desk.best)) {
            desk.best.copyFrom(desk.trial);
        }
        if (depth >= MAX_PIECES || !desk.mayLeadToBetter(town)) {
            return;
        }
        for (int i = 0; i < desk.pieceCount; i++) {
            if (desk.reasonAgainst(desk.trial, i) == MAY_HANG) {
                desk.putOn(desk.trial, i, town);
                seekBest(desk, town, depth + 1);
                desk.takeLastOff(desk.trial);
            }
        }
    }

    private boolean isBetter(Rig one, Rig other) {
        if (one.worth != other.worth) {
            return one.worth > other.worth;
        }
        if (one.lastMinute() != other.lastMinute()) {
            return one.lastMinute() < other.lastMinute();
        }
        return costByPieces(one) < costByPieces(other);
    }

    private boolean mayLeadToBetter(Town town) {
        int worth = trial.worth;
        int minutes = trial.lastMinute();
        for (int i = 0; i < pieceCount; i++) {
            if (!isIn(i, trial.members) && mayComeLater(pieces[i], town)) {
                worth += pieces[i].worth;
                minutes += pieces[i].minutes;
            }
        }
        if (worth != best.worth) {
            return worth > best.worth;
        }
        // The same worth is reached only with all these pieces, and they take all these minutes.
        return minutes <= best.lastMinute();
    }

    // Loads and the end only grow. The reason 'c' itself may pass, since a pause that another piece
    // takes first can spare this one its own, behind a truck that comes late.
    private boolean mayComeLater(Piece piece, Town town) {
        int ready = Math.max(trial.lastMinute(), arrivals[piece.truck]);
        return piece.isFixed() && piece.minutes <= town.stretch && ready + piece.minutes <= town.curfew
                && !overloads(trial, piece, town);
    }

    // ---- The way through all completions

    private void tryAllCompletions() {
        triedCount = 0;
        triedWorth = 0;
        trial.copyFrom(rig);
        tryAllFrom(this, 0);
    }

    private static void tryAllFrom(Stagecargo desk, int depth) {
        desk.triedCount++;
        desk.triedWorth = Math.max(desk.triedWorth, desk.trial.worth);
        Town town = desk.present;
        if (depth >= MAX_PIECES || town == null) {
            return;
        }
        for (int i = 0; i < desk.pieceCount; i++) {
            if (desk.reasonAgainst(desk.trial, i) == MAY_HANG) {
                desk.putOn(desk.trial, i, town);
                tryAllFrom(desk, depth + 1);
                desk.takeLastOff(desk.trial);
            }
        }
    }

    // ---- Parts of the check

    private boolean noPointOverloaded(Town town) {
        for (int i = 0; i < pointCount; i++) {
            if (leftAt(i, town) < 0) {
                return false;
            }
        }
        return true;
    }

    private boolean needsHungBefore() {
        int before = 0;
        for (int i = 0; i < rig.size; i++) {
            int number = rig.order[i];
            if ((pieces[number].needs & ~before) != 0) {
                return false;
            }
            before |= 1 << number;
        }
        return true;
    }

    private static final class Point {
        int place = 0;
        int limit = 0;
    }

    private static final class Piece {
        int weight = 0;
        int minutes = 0;
        int worth = 0;
        int truck = 0;
        int left = NONE;
        int right = NONE;
        int leftLoad = 0;
        int rightLoad = 0;
        /** The pieces that it needs itself, a bit for each. */
        int needs = 0;

        boolean isFixed() {
            return left >= 0 && right >= 0;
        }

        int loadAt(int point) {
            if (point == left) {
                return leftLoad;
            }
            return point == right ? rightLoad : 0;
        }
    }

    private static final class Town {
        final int number;
        int allowance = 0;
        int stretch = 0;
        int pause = 0;
        int curfew = 0;
        int rate = 0;
        int overtime = 0;
        int overtimeRate = 0;

        Town(int number) {
            this.number = number;
        }

        int allows(Point point) {
            return point.limit * allowance / 100;
        }
    }

    /** Hung pieces in their order; works holds the work that counts together at the end of each. */
    private static final class Rig {
        final int[] order = new int[MAX_PIECES];
        final int[] begins = new int[MAX_PIECES];
        final int[] ends = new int[MAX_PIECES];
        final int[] works = new int[MAX_PIECES];
        final int[] loads = new int[MAX_POINTS];
        int size = 0;
        int members = 0;
        int worth = 0;

        int lastMinute() {
            return size > 0 ? ends[size - 1] : 0;
        }

        int workAtEnd() {
            return size > 0 ? works[size - 1] : 0;
        }

        int indexOf(int piece) {
            for (int i = 0; i < size; i++) {
                if (order[i] == piece) {
                    return i;
                }
            }
            return NONE;
        }

        boolean isWorkedOn(int minute) {
            for (int i = 0; i < size; i++) {
                if (minute >= begins[i] && minute < ends[i]) {
                    return true;
                }
            }
            return false;
        }

        void empty() {
            size = 0;
            members = 0;
            worth = 0;
            for (int i = 0; i < MAX_POINTS; i++) {
                loads[i] = 0;
            }
        }

        void copyFrom(Rig other) {
            size = other.size;
            members = other.members;
            worth = other.worth;
            for (int i = 0; i < MAX_PIECES; i++) {
                order[i] = other.order[i];
                begins[i] = other.begins[i];
                ends[i] = other.ends[i];
                works[i] = other.works[i];
            }
            for (int i = 0; i < MAX_POINTS; i++) {
                loads[i] = other.loads[i];
            }
        }
    }
}
