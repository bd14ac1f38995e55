import java.util.ArrayList;
import java.util.List;

/**
 * All that can be seen of a desk, so that two of them can be compared. What can't be asked for is shown by acts, which
 * come last, so a desk can be looked at only once. With its making a desk stays under its 512 calls.
 */
final class Look {
    private static final int[] READINGS = {0, 9, 10, 19, 20, 35, 50, 1000000};
    private static final String[] SHOWING_ACTS = {"tell 7", "check", "count 3", "piece 0 999999 0 0", "piece 1 999999 0 0",
        "piece 2 999999 0 0", "piece 3 999999 0 0", "reset 0", "reset 1", "reset 2", "reset 3", "trace 2 0 0 0",
        "tie 0 1 0", "untie 0", "untie 0", "drop", "count 1"};

    private final List<Long> answers = new ArrayList<>();
    private final AfterDesk desk;

    private Look(AfterDesk desk) {
        this.desk = desk;
    }

    static List<Long> at(AfterDesk desk) {
        Look look = new Look(desk);
        look.atClocks();
        look.atTraces();
        look.atStories();
        for (String act : SHOWING_ACTS) {
            look.ask(act);
        }
        return look.answers;
    }

    private void ask(String call) {
        answers.add(Calls.answer(desk, call));
    }

    private void atClocks() {
        for (int clock = 0; clock < 4; clock++) {
            for (int reading : READINGS) {
                ask("offset " + clock + " " + reading + " false");
                ask("offset " + clock + " " + reading + " true");
            }
        }
    }

    private void atTraces() {
        for (int t = 0; t < 12; t++) {
            for (int what = 0; what < 4; what++) {
                ask("about " + t + " " + what);
            }
            ask("span " + t + " false");
            ask("span " + t + " true");
            ask("time " + t + " false");
            ask("time " + t + " true");
            ask("without " + t + " " + (t + 1) % 12 + " false");
            ask("without " + t + " " + (t + 1) % 12 + " true");
            ask("apart " + t + " " + (t + 1) % 12 + " false");
            ask("apart " + t + " " + (t + 1) % 12 + " true");
        }
        ask("quarrel");
    }

    private void atStories() {
        for (int what = 0; what < 5; what++) {
            ask("count " + what);
        }
        for (int d = 0; d < 10; d++) {
            ask("cost " + (1 << d));
            ask("sure " + d);
        }
        for (int story : new int[] {0, 3, 33, 37, 1023}) {
            ask("cost " + story);
        }
        for (int mark = 0; mark < 16; mark++) {
            ask("parts " + mark);
        }
        for (String call : new String[] {"least", "many", "story 0", "story 1", "story 2", "ask"}) {
            ask(call);
        }
    }
}
