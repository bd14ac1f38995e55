import java.util.EnumMap;
import java.util.List;
import java.util.Map;

/** Asks a call that must be refused, and whether it then changed nothing but what found() tells. */
final class Refusal {
    private static final Map<Desks, List<Long>> UNTOUCHED = new EnumMap<>(Desks.class);

    private Refusal() {
    }

    static void is(String sentence, Desks start, String call, long due) {
        is(sentence, start, Calls.nameOf(call), Calls.numbersOf(call), Calls.flagOf(call), due);
    }

    static void is(String sentence, Desks start, String name, int[] numbers, boolean flag, long due) {
        String what = sentence + ": " + name + java.util.Arrays.toString(numbers) + " " + flag + " at " + start;
        AfterDesk desk = start.make();
        long[] before = findings(desk);
        Due.is(what, Calls.answer(desk, name, numbers, flag), due);
        long[] after = findings(desk);
        for (int k = 1; k <= 5; k++) {
            Due.is(what + ", then found(" + k + ")", after[k] - before[k], due == Due.LOW - k ? 1 : 0);
        }
        List<Long> untouched = UNTOUCHED.computeIfAbsent(start, make -> Look.at(make.make()));
        Due.holds(what + " changes nothing", Look.at(desk).equals(untouched));
    }

    private static long[] findings(AfterDesk desk) {
        long[] counts = new long[6];
        for (int k = 1; k <= 5; k++) {
            counts[k] = desk.found(k);
        }
        return counts;
    }
}
