/** All that can be asked of a desk without changing it, as a text: about 120 calls. */
final class Snapshot {
    interface Asked {
        Object answer();
    }

    private Snapshot() {
    }

    static String of(Stagecargo desk) {
        StringBuilder text = new StringBuilder();
        add(text, "town", desk::town);
        for (int point = 0; point < 8; point++) {
            int number = point;
            add(text, "mayBear", () -> desk.mayBear(number));
            add(text, "bears", () -> desk.bears(number));
        }
        for (int piece = 0; piece < 6; piece++) {
            int number = piece;
            add(text, "reason", () -> desk.reason(number));
            add(text, "beginOf", () -> desk.beginOf(number));
            add(text, "hungAt", () -> desk.hungAt(number));
            add(text, "bestAt", () -> desk.bestAt(number));
            for (int point = 0; point < 8; point++) {
                int at = point;
                add(text, "loadOn", () -> desk.loadOn(number, at));
            }
        }
        add(text, "hung", desk::hung);
        add(text, "end", desk::end);
        add(text, "work", desk::work);
        add(text, "cost", desk::cost);
        add(text, "costByMinutes", desk::costByMinutes);
        add(text, "bestWorth", desk::bestWorth);
        add(text, "bestByAll", desk::bestByAll);
        add(text, "bestEnd", desk::bestEnd);
        add(text, "bestCost", desk::bestCost);
        add(text, "bestSize", desk::bestSize);
        add(text, "completions", desk::completions);
        add(text, "tightest", desk::tightest);
        add(text, "hungShare", desk::hungShare);
        add(text, "meanLoad", desk::meanLoad);
        add(text, "isSound", desk::isSound);
        return text.toString();
    }

    static void add(StringBuilder text, String name, Asked asked) {
        text.append(name).append('=');
        try {
            text.append(asked.answer());
        } catch (RuntimeException e) {
            text.append(e.getClass().getSimpleName());
        }
        text.append(' ');
    }
}
