import java.util.ArrayList;
import java.util.List;
import java.util.NoSuchElementException;

/**
 * The document told once more, in the slowest and plainest way: it keeps only what was entered and the
 * order of the hung pieces, finds everything else anew at each call, and leaves nothing out of a search.
 */
final class Oracle {
    private final List<int[]> points = new ArrayList<>();
    private final List<int[]> pieces = new ArrayList<>();
    private final List<int[]> fixings = new ArrayList<>();
    private final List<List<Integer>> needs = new ArrayList<>();
    private final List<int[]> towns = new ArrayList<>();
    private final List<int[]> rates = new ArrayList<>();
    private final int[] arrivals = new int[3];
    private List<Integer> order = new ArrayList<>();
    private int here = -1;

    int addPoint(int place, int limit) {
        range(place, 0, 60);
        range(limit, 100, 5000);
        if (points.size() == 8) {
            throw new IllegalStateException();
        }
        points.add(new int[] {place, limit});
        return points.size() - 1;
    }

    int addPiece(int weight, int minutes, int worth, int truck) {
        range(weight, 10, 2000);
        range(minutes, 5, 240);
        range(worth, 1, 99);
        range(truck, 0, 2);
        if (pieces.size() == 6) {
            throw new IllegalStateException();
        }
        pieces.add(new int[] {weight, minutes, worth, truck});
        fixings.add(null);
        needs.add(new ArrayList<>());
        return pieces.size() - 1;
    }

    int fix(int piece, int left, int right, int centre, int angle) {
        isPiece(piece);
        isPoint(left);
        isPoint(right);
        int from = points.get(left)[0];
        int to = points.get(right)[0];
        if (to <= from || centre < from || centre > to) {
            throw new IllegalArgumentException();
        }
        range(angle, 0, 60);
        if (order.contains(piece)) {
            throw new IllegalStateException();
        }
        fixings.set(piece, new int[] {left, right, centre, angle});
        return part(piece, right);
    }

    int need(int piece, int other) {
        isPiece(piece);
        isPiece(other);
        if (piece == other) {
            throw new IllegalArgumentException();
        }
        if (reaches(other, piece)) {
            throw new UnsupportedOperationException();
        }
        if (order.contains(piece)) {
            throw new IllegalStateException();
        }
        if (!needs.get(piece).contains(other)) {
            needs.get(piece).add(other);
        }
        return needs.get(piece).size();
    }

    int setArrival(int truck, int minute) {
        if (truck < 0 || truck > 2) {
            throw new IndexOutOfBoundsException();
        }
        range(minute, 0, 1440);
        for (int piece : order) {
            if (pieces.get(piece)[3] == truck) {
                throw new IllegalStateException();
            }
        }
        int before = arrivals[truck];
        arrivals[truck] = minute;
        return before;
    }

    int addTown(int allowance, int stretch, int pause, int curfew) {
        range(allowance, 10, 100);
        range(stretch, 30, 480);
        range(pause, 5, 120);
        range(curfew, 60, 1440);
        if (towns.size() == 4) {
            throw new IllegalStateException();
        }
        towns.add(new int[] {allowance, stretch, pause, curfew});
        rates.add(new int[3]);
        return towns.size() - 1;
    }

    int setRates(int town, int rate, int overtime, int overtimeRate) {
        isTown(town);
        range(rate, 0, 99);
        range(overtime, 0, 1440);
        range(overtimeRate, 0, 99);
        return rates.set(town, new int[] {rate, overtime, overtimeRate})[0];
    }

    int come(int town) {
        isTown(town);
        int before = order.size();
        order = new ArrayList<>();
        here = town;
        return before;
    }

    int town() {
        if (here < 0) {
            throw new NoSuchElementException();
        }
        return here;
    }

    int loadOn(int piece, int point) {
        isPiece(piece);
        isPoint(point);
        int[] fixing = fixings.get(piece);
        if (fixing == null || fixing[0] != point && fixing[1] != point) {
            return 0;
        }
        int hundredths = part(piece, point) * (100 + fixing[3]);
        return hundredths % 100 == 0 ? hundredths / 100 : hundredths / 100 + 1;
    }

    int mayBear(int point) {
        isPoint(point);
        if (here < 0) {
            throw new IllegalStateException();
        }
        return points.get(point)[1] * towns.get(here)[0] / 100;
    }

    int bears(int point) {
        isPoint(point);
        return bears(order, point);
    }

    char reason(int piece) {
        isPiece(piece);
        return reason(order, piece);
    }

    int hang(int piece) {
        isPiece(piece);
        if (reason(order, piece) != '-') {
            throw new IllegalStateException();
        }
        order.add(piece);
        return end();
    }

    int takeDown() {
        if (order.isEmpty()) {
            throw new IllegalStateException();
        }
        return order.remove(order.size() - 1);
    }

    int hung() {
        return order.size();
    }

    int hungAt(int index) {
        return at(order, index);
    }

    int beginOf(int piece) {
        isPiece(piece);
        if (!order.contains(piece)) {
            throw new NoSuchElementException();
        }
        return begins(order)[order.indexOf(piece)];
    }

    int end() {
        return end(order);
    }

    int work() {
        int[] begins = begins(order);
        int sum = 0;
        for (int i = order.size() - 1; i >= 0; i--) {
            sum += minutes(order.get(i));
            if (i > 0 && isBreakBefore(order, begins, i)) {
                break;
            }
        }
        return sum;
    }

    long cost() {
        return cost(order);
    }

    int bestWorth() {
        return worth(best());
    }

    int bestEnd() {
        return end(best());
    }

    long bestCost() {
        return cost(best());
    }

    int bestSize() {
        return best().size();
    }

    int bestAt(int index) {
        return at(best(), index);
    }

    int complete() {
        int before = order.size();
        order = best();
        return order.size() - before;
    }

    int completions() {
        return all().size();
    }

    int tightest() {
        if (here < 0) {
            throw new IllegalStateException();
        }
        if (points.isEmpty()) {
            throw new NoSuchElementException();
        }
        int found = points.size() - 1;
        for (int i = found - 1; i >= 0; i--) {
            if (mayBear(i) - bears(i) <= mayBear(found) - bears(found)) {
                found = i;
            }
        }
        return found;
    }

    float hungShare() {
        if (pieces.isEmpty()) {
            throw new ArithmeticException();
        }
        float hung = order.size();
        float all = pieces.size();
        return hung / all;
    }

    double meanLoad() {
        if (points.isEmpty()) {
            throw new ArithmeticException();
        }
        double sum = 0;
        for (int i = 0; i < points.size(); i++) {
            sum += bears(i);
        }
        return sum / (double) points.size();
    }

    int points() {
        return points.size();
    }

    int pieces() {
        return pieces.size();
    }

    int towns() {
        return towns.size();
    }

    int placeOf(int point) {
        return points.get(point)[0];
    }

    private static void range(int value, int least, int greatest) {
        if (value < least || value > greatest) {
            throw new IllegalArgumentException();
        }
    }

    private void isPiece(int piece) {
        if (piece < 0 || piece >= pieces.size()) {
            throw new NoSuchElementException();
        }
    }

    private void isPoint(int point) {
        if (point < 0 || point >= points.size()) {
            throw new IndexOutOfBoundsException();
        }
    }

    private void isTown(int town) {
        if (town < 0 || town >= towns.size()) {
            throw new NoSuchElementException();
        }
    }

    private static int at(List<Integer> rig, int index) {
        if (index < 0 || index >= rig.size()) {
            throw new IndexOutOfBoundsException();
        }
        return rig.get(index);
    }

    private int minutes(int piece) {
        return pieces.get(piece)[1];
    }

    private int arrival(int piece) {
        return arrivals[pieces.get(piece)[3]];
    }

    private boolean reaches(int piece, int other) {
        for (int needed : needs.get(piece)) {
            if (needed == other || reaches(needed, other)) {
                return true;
            }
        }
        return false;
    }

    private int part(int piece, int point) {
        int[] fixing = fixings.get(piece);
        int from = points.get(fixing[0])[0];
        int to = points.get(fixing[1])[0];
        int weight = pieces.get(piece)[0];
        int right = weight * (fixing[2] - from) / (to - from);
        return point == fixing[1] ? right : weight - right;
    }

    private int bears(List<Integer> rig, int point) {
        int sum = 0;
        for (int piece : rig) {
            sum += loadOn(piece, point);
        }
        return sum;
    }

    /** The minutes in which the pieces of a rig begin, told as the document tells them. */
    private int[] begins(List<Integer> rig) {
        int[] begins = new int[rig.size()];
        int end = 0;
        int together = 0;
        for (int i = 0; i < begins.length; i++) {
            int piece = rig.get(i);
            int[] town = towns.get(here);
            int begin = end;
            if (arrival(piece) > begin) {
                begin = arrival(piece);
            }
            if (i > 0 && arrival(piece) - end >= town[2]) {
                together = 0;
            } else if (i > 0 && together + minutes(piece) > town[1]) {
                begin += town[2];
                together = 0;
            }
            begins[i] = begin;
            together += minutes(piece);
            end = begin + minutes(piece);
        }
        return begins;
    }

    /** A break is a pause or as long a wait; a wait that is none is always shorter than the pause. */
    private boolean isBreakBefore(List<Integer> rig, int[] begins, int i) {
        int endBefore = begins[i - 1] + minutes(rig.get(i - 1));
        return begins[i] - endBefore >= towns.get(here)[2];
    }

    private int end(List<Integer> rig) {
        if (rig.isEmpty()) {
            return 0;
        }
        int last = rig.size() - 1;
        return begins(rig)[last] + minutes(rig.get(last));
    }

    private long cost(List<Integer> rig) {
        int[] begins = begins(rig);
        long sum = 0;
        for (int i = 0; i < begins.length; i++) {
            int[] rate = rates.get(here);
            for (int minute = begins[i]; minute < begins[i] + minutes(rig.get(i)); minute++) {
                sum += minute < rate[1] ? rate[0] : rate[2];
            }
        }
        return sum;
    }

    private int worth(List<Integer> rig) {
        int sum = 0;
        for (int piece : rig) {
            sum += pieces.get(piece)[2];
        }
        return sum;
    }

    private char reason(List<Integer> rig, int piece) {
        if (here < 0) {
            return 't';
        }
        if (rig.contains(piece)) {
            return 'h';
        }
        int[] fixing = fixings.get(piece);
        if (fixing == null) {
            return 'f';
        }
        if (!rig.containsAll(needs.get(piece))) {
            return 'n';
        }
        if (minutes(piece) > towns.get(here)[1]) {
            return 's';
        }
        List<Integer> next = with(rig, piece);
        if (bears(next, fixing[0]) > mayBear(fixing[0]) || bears(next, fixing[1]) > mayBear(fixing[1])) {
            return 'l';
        }
        return end(next) > towns.get(here)[3] ? 'c' : '-';
    }

    private static List<Integer> with(List<Integer> rig, int piece) {
        List<Integer> next = new ArrayList<>(rig);
        next.add(piece);
        return next;
    }

    private List<List<Integer>> all() {
        List<List<Integer>> found = new ArrayList<>();
        found.add(order);
        for (int i = 0; i < found.size(); i++) {
            for (int piece = 0; piece < pieces.size(); piece++) {
                if (reason(found.get(i), piece) == '-') {
                    found.add(with(found.get(i), piece));
                }
            }
        }
        return found;
    }

    private List<Integer> best() {
        List<Integer> best = order;
        for (List<Integer> rig : all()) {
            if (isBetter(rig, best)) {
                best = rig;
            }
        }
        return new ArrayList<>(best);
    }

    private boolean isBetter(List<Integer> one, List<Integer> other) {
        if (worth(one) != worth(other)) {
            return worth(one) > worth(other);
        }
        if (end(one) != end(other)) {
            return end(one) < end(other);
        }
        if (cost(one) != cost(other)) {
            return cost(one) < cost(other);
        }
        for (int i = 0; i < one.size() && i < other.size(); i++) {
            if (!one.get(i).equals(other.get(i))) {
                return one.get(i) < other.get(i);
            }
        }
        return false;
    }
}
