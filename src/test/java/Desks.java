import java.util.ArrayList;
import java.util.List;

/** Desks that tests of boundaries start from. Each can be made again and again, always alike. */
enum Desks {
    /** Nothing was called yet. */
    EMPTY,
    /** Some of everything: TRACES of all KINDS, with and without ends, several LEAST STORIES, numbers that wait. */
    PLAIN,
    /** Every limit is reached: PIECES, TRACES, TIES, DEEDS, numbers that wait; the first 24 of these are right. */
    FULL,
    /** As PLAIN, but TRACES 0 and 1 can't both be. */
    QUARRELLING,
    /** As PLAIN, but no STORY is POSSIBLE. */
    STORYLESS;

    private static final String[] PLAIN_CALLS = {"piece 0 10 -5 5", "piece 0 20 0 7", "piece 1 0 -3 3",
        "trace 0 0 15 3", "trace 1 0 25 4", "trace 2 1 30 5", "trace 0 2 40 3", "trace 0 0 5 6", "tie 0 1 2",
        "tie 2 1 -4", "tie 0 2 1", "deed 0 30 88 0 0", "deed 1 20 24 256 0", "deed 2 10 0 64 0", "deed 5 0 512 0 512",
        "prices 0 7", "tell 10", "tell 20", "tell 25", "tell 31"};

    AfterDesk make() {
        AfterDesk desk = new AfterDesk();
        for (String call : calls()) {
            Calls.answer(desk, call);
        }
        return desk;
    }

    /** The same, but no numbers wait. */
    AfterDesk makeUntold() {
        AfterDesk desk = new AfterDesk();
        for (String call : calls()) {
            if (!call.startsWith("tell ")) {
                Calls.answer(desk, call);
            }
        }
        return desk;
    }

    Model model() {
        Model model = new Model();
        for (String call : calls()) {
            model.call(call);
        }
        return model;
    }

    private List<String> calls() {
        if (this == EMPTY) {
            return List.of();
        }
        if (this == FULL) {
            return fullCalls();
        }
        List<String> calls = new ArrayList<>(List.of(PLAIN_CALLS));
        if (this == QUARRELLING) {
            calls.add("tie 1 0 -1");
        }
        if (this == STORYLESS) {
            calls.add("trace 1 3 0 15");
        }
        return calls;
    }

    private static List<String> fullCalls() {
        List<String> calls = new ArrayList<>();
        for (int clock = 0; clock < 4; clock++) {
            for (int i = 1; i <= 5; i++) {
                calls.add("piece " + clock + " " + 10 * i + " " + (clock - i) + " " + (clock + i));
            }
        }
        for (int t = 0; t < 12; t++) {
            calls.add("trace " + t % 3 + " " + t % 4 + " " + (10 + 4 * t) + " " + t);
        }
        // the chain gives COPIED TRACES an end above, so that every TRACE has both
        for (int i = 0; i < 24; i++) {
            calls.add("tie " + i % 11 + " " + (i % 11 + 1) + " " + -i % 5);
        }
        for (int d = 0; d < 10; d++) {
            calls.add("deed " + d + " " + d % 3 + " " + (3 << d) + " " + (36864 >> d % 4) + " " + (1 << 15 - d));
        }
        calls.add("prices 3 2");
        addNumbers(calls);
        return calls;
    }

    private static void addNumbers(List<String> calls) {
        Model model = new Model();
        for (String call : calls) {
            model.call(call);
        }
        for (int i = 0; i < 30; i++) {
            calls.add("tell " + (i < 24 ? model.call("time " + i / 2 + (i % 2 == 1 ? " true" : " false")) : i));
        }
    }
}
