/** One number of a call at its limits, each value on a desk of its own: the last let in, the first refused. */
final class Edge {
    private final String sentence;
    private final Desks start;
    private final String call;
    private final int place;

    private Edge(String sentence, Desks start, String call, int place) {
        this.sentence = sentence;
        this.start = start;
        this.call = call;
        this.place = place;
    }

    /** The call is written as Calls says; the number at this place (from 0 on) is the one that changes. */
    static Edge of(String sentence, Desks start, String call, int place) {
        return new Edge(sentence, start, call, place);
    }

    Edge letsIn(int value, long due) {
        long answer = Calls.answer(start.make(), Calls.nameOf(call), numbersWith(value), Calls.flagOf(call));
        Due.is(sentence + ": " + call + " with " + value + " at " + start, answer, due);
        return this;
    }

    /** BEYOND, for these two and for the least and the greatest int, too. */
    void refuses(int below, int above) {
        for (int value : new int[] {below, above, Integer.MIN_VALUE, Integer.MAX_VALUE}) {
            Refusal.is(sentence, start, Calls.nameOf(call), numbersWith(value), false, Due.BEYOND);
            if (Calls.isFlagged(Calls.nameOf(call))) {
                Refusal.is(sentence, start, Calls.nameOf(call), numbersWith(value), true, Due.BEYOND);
            }
        }
    }

    private int[] numbersWith(int value) {
        int[] numbers = Calls.numbersOf(call);
        numbers[place] = value;
        return numbers;
    }
}
