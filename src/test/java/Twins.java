import java.util.HashMap;
import java.util.LinkedHashMap;
import java.util.List;
import java.util.Map;

/** What a call leaves behind: looks at an object on which it was made are compared with looks at one without it. */
final class Twins {
    interface Maker {
        CloudInterviews make();
    }

    interface Act {
        Object on(CloudInterviews x);
    }

    /** A look may change the object that it looks at, so it makes its own, as many as it needs. */
    interface Look {
        String at(Maker maker);
    }

    private static final int MOST_UNDOS = 8;
    private static final Map<String, Look> LOOKS = new LinkedHashMap<>();
    private static final Map<Maker, Map<String, String>> SEEN_WITHOUT = new HashMap<>();

    static {
        LOOKS.put("board", maker -> Check.digest(maker.make()));
        LOOKS.put("next id", maker -> nextId(maker.make()));
        LOOKS.put("history", Twins::history);
        LOOKS.put("saved", maker -> saved(maker.make()));
        LOOKS.put("buffer", maker -> buffer(maker.make(), 'y') + "," + buffer(maker.make(), 'x'));
        LOOKS.put("output", maker -> Check.wholeOutput(maker.make()));
        LOOKS.put("error position", maker -> Check.outcome(maker.make()::errorPosition));
        LOOKS.put("failed command", maker -> Check.outcome(maker.make()::failedCommand));
    }

    private Twins() {
    }

    /** Checks that the call throws the exception and changes nothing, but for the things that are named. */
    static void refused(String what, String exception, Maker maker, Act act, String... spared) {
        Check.due(what, exception, () -> act.on(maker.make()));
        leavesAllBut(what, maker, act, spared);
    }

    /** Checks that the call throws nothing and changes nothing, but for the things that are named. */
    static void changesOnly(String what, Maker maker, Act act, String... spared) {
        String answer = Check.outcome(() -> act.on(maker.make()));
        Check.due(what + " answers", true, () -> !answer.endsWith("Exception"));
        leavesAllBut(what, maker, act, spared);
    }

    private static void leavesAllBut(String what, Maker maker, Act act, String... spared) {
        Map<String, String> without = SEEN_WITHOUT.computeIfAbsent(maker, Twins::seeAll);
        for (String name : LOOKS.keySet()) {
            if (!List.of(spared).contains(name)) {
                Check.due(what + " leaves the " + name, without.get(name), () -> LOOKS.get(name).at(() -> {
                    CloudInterviews x = maker.make();
                    Check.outcome(() -> act.on(x));
                    return x;
                }));
            }
        }
    }

    private static Map<String, String> seeAll(Maker maker) {
        Map<String, String> seen = new HashMap<>();
        LOOKS.forEach((name, look) -> seen.put(name, look.at(maker)));
        return seen;
    }

    private static String nextId(CloudInterviews x) {
        if (x.applicantCount() == 10) {
            x.removeApplicant(x.applicant(9));
        }
        return Check.outcome(() -> x.addApplicant('n', 1, 1));
    }

    private static String history(Maker maker) {
        StringBuilder seen = new StringBuilder();
        for (int undos = 0; undos <= MOST_UNDOS + 1; undos++) {
            CloudInterviews x = maker.make();
            seen.append(x.undoCount());
            for (int i = 0; i < undos; i++) {
                seen.append(' ').append(Check.outcome(x::undo));
            }
            seen.append(Check.digest(x)).append(" next ").append(nextId(x)).append('\n');
        }
        return seen.toString();
    }

    private static String saved(CloudInterviews x) {
        String restored = Check.outcome(x::restore);
        return restored.endsWith("Exception") ? restored : restored + Check.digest(x) + " next " + nextId(x);
    }

    private static String buffer(CloudInterviews x, char next) {
        return Check.outcome(() -> x.feed(next)) + Check.outcome(x::execute) + Check.outcome(x::errorPosition)
                + Check.outcome(() -> x.feed(next));
    }
}
