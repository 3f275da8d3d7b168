/** All promises: long runs of drawn calls, each answered by the class and by the oracle. */
public final class OracleTest {
    private static final int RUNS = 4000;
    /** A desk is used for so many calls; each that is drawn is one. */
    private static final int CALLS = 512;

    private static final int ADD_POINT = 0;
    private static final int ADD_PIECE = 1;
    private static final int FIX = 2;
    private static final int NEED = 3;
    private static final int SET_ARRIVAL = 4;
    private static final int ADD_TOWN = 5;
    private static final int SET_RATES = 6;
    private static final int COME = 7;
    private static final int TAKE_DOWN = 12;
    private static final int HANG = 14;
    private static final int KINDS = 34;

    private static long drawn = 0;

    private interface Asked {
        Object answer();
    }

    public static void main(String[] args) {
        for (int run = 0; run < RUNS; run++) {
            drawn = run;
            play(run);
        }
        Check.finish("OracleTest");
    }

    private static void play(int run) {
        Stagecargo desk = new Stagecargo();
        Oracle oracle = new Oracle();
        StringBuilder told = new StringBuilder();
        for (int call = 0; call < CALLS; call++) {
            // Every eighth run draws all its calls; the others enter a show first, and are then busy with it.
            String wrong = call < 40 && run % 8 != 0 ? enter(call, desk, oracle) : anyCall(desk, oracle);
            told.append(wrong).append('\n');
            if (wrong.contains("DUE")) {
                System.out.println("run " + run + ":\n" + told);
                Check.isTrue("run " + run, false);
                return;
            }
        }
        Check.isTrue("run " + run, true);
    }

    private static String enter(int call, Stagecargo desk, Oracle oracle) {
        if (call < 20) {
            int[] kinds = {ADD_POINT, ADD_POINT, ADD_PIECE, ADD_PIECE, ADD_TOWN};
            return call(kinds[call % 5], desk, oracle);
        }
        if (call < 32) {
            return call(FIX, desk, oracle);
        }
        int[] kinds = {SET_ARRIVAL, SET_RATES, SET_ARRIVAL, oracle.pieces() % 2 == 0 ? NEED : SET_RATES, COME};
        return call(kinds[call % 5], desk, oracle);
    }

    private static String anyCall(Stagecargo desk, Oracle oracle) {
        int[] more = {HANG, HANG, FIX, TAKE_DOWN, TAKE_DOWN, COME};
        int kind = draw(KINDS + more.length);
        return call(kind < KINDS ? kind : more[kind - KINDS], desk, oracle);
    }

    private static String call(int kind, Stagecargo desk, Oracle oracle) {
        int piece = near(oracle.pieces());
        int point = near(oracle.points());
        int town = near(oracle.towns());
        int small = near(3);
        int index = near(5);
        switch (kind) {
            case ADD_POINT: {
                int place = drawn(0, 60);
                int limit = draw(3) == 0 ? drawn(100, 1500) : drawn(100, 5000);
                return both("addPoint", () -> desk.addPoint(place, limit),
                        () -> oracle.addPoint(place, limit), place, limit);
            }
            case ADD_PIECE: {
                int weight = draw(4) == 0 ? drawn(10, 2000) : drawn(10, 500);
                int minutes = draw(3) == 0 ? 10 * drawn(2, 6) : drawn(5, 240) / (1 + draw(4));
                int worth = draw(2) == 0 ? 1 + draw(3) : drawn(1, 99);
                return both("addPiece", () -> desk.addPiece(weight, minutes, worth, small),
                        () -> oracle.addPiece(weight, minutes, worth, small), weight, minutes, worth, small);
            }
            case FIX: {
                int right = near(oracle.points());
                int centre = centreOf(oracle, point, right);
                int angle = drawn(0, 60);
                boolean turned = isTurned(oracle, point, right);
                int from = turned ? right : point;
                int to = turned ? point : right;
                return both("fix", () -> desk.fix(piece, from, to, centre, angle),
                        () -> oracle.fix(piece, from, to, centre, angle), piece, from, to, centre, angle);
            }
            case NEED: {
                int other = near(oracle.pieces());
                return both("need", () -> desk.need(piece, other), () -> oracle.need(piece, other), piece, other);
            }
            case SET_ARRIVAL: {
                int minute = draw(3) == 0 ? 0 : draw(4) == 0 ? drawn(0, 1440) : draw(300);
                return both("setArrival", () -> desk.setArrival(small, minute),
                        () -> oracle.setArrival(small, minute), small, minute);
            }
            case ADD_TOWN: {
                int allowance = draw(2) == 0 ? 100 : drawn(10, 100);
                int stretch = draw(2) == 0 ? 100 : drawn(30, 480);
                int pause = draw(2) == 0 ? 20 : drawn(5, 120);
                int curfew = draw(2) == 0 ? 1440 : drawn(60, 1440);
                return both("addTown", () -> desk.addTown(allowance, stretch, pause, curfew),
                        () -> oracle.addTown(allowance, stretch, pause, curfew), allowance, stretch, pause, curfew);
            }
            case SET_RATES: {
                int rate = drawn(0, 99);
                int overtime = draw(3) == 0 ? drawn(0, 1440) : draw(300);
                int overtimeRate = drawn(0, 99);
                return both("setRates", () -> desk.setRates(town, rate, overtime, overtimeRate),
                        () -> oracle.setRates(town, rate, overtime, overtimeRate), town, rate, overtime, overtimeRate);
            }
            case COME:
                if (draw(3) > 0 && oracle.hung() > 0) {
                    return both("hung", desk::hung, oracle::hung);
                }
                return both("come", () -> desk.come(town), () -> oracle.come(town), town);
            case 8:
                return both("town", desk::town, oracle::town);
            case 9:
                return both("loadOn", () -> desk.loadOn(piece, point), () -> oracle.loadOn(piece, point), piece, point);
            case 10:
                return both("mayBear", () -> desk.mayBear(point), () -> oracle.mayBear(point), point);
            case 11:
                return both("bears", () -> desk.bears(point), () -> oracle.bears(point), point);
            case TAKE_DOWN:
                return both("takeDown", desk::takeDown, oracle::takeDown);
            case 13:
                return both("reason", () -> desk.reason(piece), () -> oracle.reason(piece), piece);
            case HANG:
                return both("hang", () -> desk.hang(piece), () -> oracle.hang(piece), piece);
            case 15:
                return both("beginOf", () -> desk.beginOf(piece), () -> oracle.beginOf(piece), piece);
            case 16:
                return both("hung", desk::hung, oracle::hung);
            case 17:
                return both("hungAt", () -> desk.hungAt(index), () -> oracle.hungAt(index), index);
            default:
                return askWhole(kind, index, desk, oracle);
        }
    }

    private static String askWhole(int kind, int index, Stagecargo desk, Oracle oracle) {
        switch (kind) {
            case 18:
                return both("end", desk::end, oracle::end);
            case 19:
                return both("work", desk::work, oracle::work);
            case 20:
                return both("cost", desk::cost, oracle::cost);
            case 21:
                return both("costByMinutes", desk::costByMinutes, oracle::cost);
            case 22:
                return both("bestWorth", desk::bestWorth, oracle::bestWorth);
            case 23:
                return both("bestByAll", desk::bestByAll, oracle::bestWorth);
            case 24:
                return both("bestEnd", desk::bestEnd, oracle::bestEnd);
            case 25:
                return both("bestCost", () -> (long) desk.bestCost(), oracle::bestCost);
            case 26:
                return both("bestSize", desk::bestSize, oracle::bestSize);
            case 27:
                return both("bestAt", () -> desk.bestAt(index), () -> oracle.bestAt(index), index);
            case 28:
                return draw(3) == 0 ? both("complete", desk::complete, oracle::complete)
                        : both("hung", desk::hung, oracle::hung);
            case 29:
                return both("completions", desk::completions, oracle::completions);
            case 30:
                return both("tightest", desk::tightest, oracle::tightest);
            case 31:
                return both("hungShare", desk::hungShare, oracle::hungShare);
            case 32:
                return both("meanLoad", desk::meanLoad, oracle::meanLoad);
            default:
                return both("isSound", desk::isSound, () -> true);
        }
    }

    private static String both(String name, Asked asked, Asked due, int... args) {
        StringBuilder told = new StringBuilder(name);
        for (int arg : args) {
            told.append(' ').append(arg);
        }
        String got = answer(asked);
        String wanted = answer(due);
        told.append(" = ").append(got);
        if (!got.equals(wanted)) {
            told.append(", DUE ").append(wanted);
        }
        return told.toString();
    }

    private static String answer(Asked asked) {
        try {
            return asked.answer().toString();
        } catch (RuntimeException e) {
            return e.getClass().getName();
        }
    }

    /** Whether two points are the wrong way round and are to be turned, as they mostly are. */
    private static boolean isTurned(Oracle oracle, int left, int right) {
        boolean both = left >= 0 && right >= 0 && left < oracle.points() && right < oracle.points();
        return both && oracle.placeOf(left) > oracle.placeOf(right) && draw(10) > 0;
    }

    /** Mostly a centre between both points. */
    private static int centreOf(Oracle oracle, int one, int other) {
        if (one < 0 || other < 0 || one >= oracle.points() || other >= oracle.points()) {
            return draw(61);
        }
        int least = Math.min(oracle.placeOf(one), oracle.placeOf(other));
        int greatest = Math.max(oracle.placeOf(one), oracle.placeOf(other));
        return drawn(least, greatest);
    }

    /** A number of 0 to below, or now and then the one next to it on either side. */
    private static int near(int below) {
        int kind = draw(40);
        return kind == 0 ? -1 : kind == 1 || below == 0 ? below : draw(below);
    }

    /** A number in the range, often one of its ends, and now and then one just outside. */
    private static int drawn(int least, int greatest) {
        int kind = draw(80);
        if (kind < 2) {
            return kind == 0 ? least - 1 : greatest + 1;
        }
        if (kind < 10) {
            return kind < 6 ? least : greatest;
        }
        return least + draw(greatest - least + 1);
    }

    /** The same numbers in every run of the test: a linear congruence, whose upper bits serve. */
    private static int draw(int below) {
        drawn = drawn * 6364136223846793005L + 1442695040888963407L;
        return (int) ((drawn >>> 33) % below);
    }
}
