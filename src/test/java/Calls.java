/** The calls of the public face by their names, so that tests can choose them. */
final class Calls {
    static final String[] NAMES = {"piece", "reset", "offset", "trace", "drop", "about", "as", "span", "tie", "untie",
        "time", "apart", "quarrel", "without", "deed", "forget", "prices", "cost", "least", "many", "story", "sure",
        "parts", "ask", "tell", "check", "count", "found"};

    private static final String FLAGGED = " offset span time apart without ";

    private Calls() {
    }

    static boolean isFlagged(String name) {
        return FLAGGED.contains(" " + name + " ");
    }

    /** The numbers of a call that is written as "tie 0 1 -5" or "time 0 true"; those it doesn't write are 0. */
    static int[] numbersOf(String call) {
        String[] words = call.split(" ");
        int[] numbers = new int[5];
        for (int i = 1; i < words.length && !words[i].equals("true") && !words[i].equals("false"); i++) {
            numbers[i - 1] = Integer.parseInt(words[i]);
        }
        return numbers;
    }

    static String nameOf(String call) {
        return call.split(" ")[0];
    }

    static boolean flagOf(String call) {
        return call.endsWith(" true");
    }

    static long answer(AfterDesk desk, String call) {
        return answer(desk, nameOf(call), numbersOf(call), flagOf(call));
    }

    /** The answer of a call, whose numbers are the first of n. */
    static long answer(AfterDesk desk, String name, int[] n, boolean flag) {
        return switch (name) {
            case "piece" -> desk.piece(n[0], n[1], n[2], n[3]);
            case "reset" -> desk.reset(n[0]);
            case "offset" -> desk.offset(n[0], n[1], flag);
            case "trace" -> desk.trace(n[0], n[1], n[2], n[3]);
            case "drop" -> desk.drop();
            case "about" -> desk.about(n[0], n[1]);
            case "as" -> desk.as(n[0], n[1]);
            case "span" -> desk.span(n[0], flag);
            case "tie" -> desk.tie(n[0], n[1], n[2]);
            case "untie" -> desk.untie(n[0]);
            case "time" -> desk.time(n[0], flag);
            case "apart" -> desk.apart(n[0], n[1], flag);
            case "quarrel" -> desk.quarrel();
            case "without" -> desk.without(n[0], n[1], flag);
            case "deed" -> desk.deed(n[0], n[1], n[2], n[3], n[4]);
            case "forget" -> desk.forget(n[0]);
            case "prices" -> desk.prices(n[0], n[1]);
            case "cost" -> desk.cost(n[0]);
            case "least" -> desk.least();
            case "many" -> desk.many();
            case "story" -> desk.story(n[0]);
            case "sure" -> desk.sure(n[0]);
            case "parts" -> desk.parts(n[0]);
            case "ask" -> desk.ask();
            case "tell" -> desk.tell(n[0]);
            case "check" -> desk.check();
            case "count" -> desk.count(n[0]);
            case "found" -> desk.found(n[0]);
            default -> throw new IllegalArgumentException(name);
        };
    }
}
