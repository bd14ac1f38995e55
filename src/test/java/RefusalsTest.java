/**
 * Every call at every limit of each of its numbers, one and two at a time, on each of the Desks: the answer must be that
 * of the Model, and a call that is refused must change nothing but what found() tells.
 */
public final class RefusalsTest {
    /** Calls that most desks let in, each number followed by the least and the greatest that it may be. */
    private static final String[] CALLS = {"piece 0 0 3 60 0 1000000 -1 -100000 100000 1 -100000 100000", "reset 1 0 3",
        "offset 1 0 3 30 0 1000000", "trace 0 0 2 1 0 3 30 0 1000000 4 0 15", "drop", "about 0 0 LAST 2 0 3",
        "as 0 0 LAST 0 0 2", "span 0 0 LAST", "tie 0 0 LAST 2 0 LAST -9 -100000 100000", "untie 1 0 TIE",
        "time 0 0 LAST", "apart 0 0 LAST 2 0 LAST", "quarrel", "without 0 0 LAST 2 0 LAST",
        "deed 1 0 9 4 0 1000 8 0 65535 16 0 65535 32 0 65535", "forget 1 0 9", "prices 5 0 1000 6 0 1000",
        "cost 1 0 1023", "least", "many", "story 0 0 2147483646", "sure 1 0 9", "parts 8 0 15", "ask",
        "tell 4 -2147483647 2147483646", "count 0 0 4", "found 3 1 5"};

    private final Desks start;
    private final String name;
    private final int[] usual;
    private final int[] least;
    private final int[] greatest;

    private RefusalsTest(Desks start, String row) {
        this.start = start;
        Model model = start.model();
        String told = row.replace("LAST", "" + (model.call("count 0") - 1)).replace("TIE", "" + (model.call("count 1") - 1));
        String[] words = told.split(" ");
        name = words[0];
        usual = new int[words.length / 3];
        least = new int[usual.length];
        greatest = new int[usual.length];
        for (int i = 0; i < usual.length; i++) {
            usual[i] = Integer.parseInt(words[3 * i + 1]);
            least[i] = Integer.parseInt(words[3 * i + 2]);
            greatest[i] = Integer.parseInt(words[3 * i + 3]);
        }
    }

    public static void main(String[] args) {
        desksAreWhatTheySay();
        for (Desks start : Desks.values()) {
            for (String row : CALLS) {
                new RefusalsTest(start, row).run();
            }
        }
        checkRefusesOtherwise();
        Due.end();
    }

    private static void desksAreWhatTheySay() {
        AfterDesk full = Desks.FULL.make();
        for (int t = 0; t < 12; t++) {
            Due.holds("full: trace " + t + " has both ends", full.time(t, false) > Due.LOW && full.time(t, true) > Due.LOW);
        }
        Due.is("full: the numbers are right", full.check(), 99);
        AfterDesk plain = Desks.PLAIN.make();
        Due.is("plain: stories", plain.many(), 4);
        Due.is("plain: the numbers are right up to the copied one", plain.check(), 2);
        Due.is("quarrelling", Desks.QUARRELLING.make().quarrel(), 3);
        Due.is("storyless", Desks.STORYLESS.make().many(), 0);
    }

    private void run() {
        ask(usual.clone());
        for (int i = 0; i < usual.length; i++) {
            for (int value : edges(i)) {
                ask(with(usual, i, value));
            }
            for (int j = 0; j < i; j++) {
                askTwo(i, j);
            }
        }
    }

    private int[] edges(int i) {
        return new int[] {Integer.MIN_VALUE, least[i] - 1, least[i], greatest[i], greatest[i] + 1, Integer.MAX_VALUE};
    }

    /** Two at a time: where both are wrong, and where they are wrong only together. */
    private void askTwo(int i, int j) {
        for (int first : edges(i)) {
            for (int second : edges(j)) {
                ask(with(with(usual, i, first), j, second));
            }
        }
    }

    private static int[] with(int[] numbers, int place, int value) {
        int[] changed = numbers.clone();
        changed[place] = value;
        return changed;
    }

    private void ask(int[] numbers) {
        int[] five = java.util.Arrays.copyOf(numbers, 5);
        askOnce(five, false);
        if (Calls.isFlagged(name)) {
            askOnce(five, true);
        }
    }

    private void askOnce(int[] numbers, boolean flag) {
        long due = start.model().call(name, numbers, flag);
        if (due < Due.LOW) {
            Refusal.is("refused", start, name, numbers, flag, due);
        } else {
            String what = name + java.util.Arrays.toString(numbers) + " " + flag + " at " + start;
            Due.is(what, Calls.answer(start.make(), name, numbers, flag), due);
        }
    }

    /** check() alone changes something where it answers a finding: the numbers are gone, too. */
    private static void checkRefusesOtherwise() {
        AfterDesk x = Desks.QUARRELLING.make();
        Due.is("check() is refused", x.check(), Due.STATE);
        Due.is("found() tells it", x.found(5), 1);
        Due.holds("as if no numbers were told", Look.at(x).equals(Look.at(Desks.QUARRELLING.makeUntold())));
    }
}
