import java.util.ArrayList;
import java.util.Arrays;
import java.util.List;
import java.util.concurrent.Callable;

/**
 * Every call that is refused, in a harbour that is new, in one that holds something and in one that is full:
 * each argument one below its range, one above it and far off, alone and together with others, also where
 * the state refuses the call. The exception is the one that stands first in the throws clause, and the
 * harbour answers afterwards as one does that was never asked so.
 */
final class RefusedTest {
    // With what makes a harbour and what asks it out, an object stays below its 512 calls.
    private static final int CALLS_OF_AN_OBJECT = 100;
    private static final String INDEX = "IndexOutOfBoundsException";
    private static final String ARGUMENT = "IllegalArgumentException";
    private static final String STATE = "IllegalStateException";

    private interface Fill {
        void into(LampRhythms x);
    }

    private interface Asked {
        Object of(LampRhythms x, int[] values);
    }

    /** An argument that is allowed from the least to the most; the exception is for any other one. */
    private record Argument(String exception, int least, int most) {
        boolean allows(int value) {
            return least <= value && value <= most;
        }

        int[] tried() {
            return new int[] {least, most, least - 1, most + 1, Integer.MIN_VALUE, Integer.MAX_VALUE};
        }
    }

    /** How a harbour is made, and how many patterns, lamps and charts it has then. */
    private record Harbour(String name, Fill fill, int patterns, int lamps, int charts) {
        LampRhythms made() {
            LampRhythms x = new LampRhythms();
            fill.into(x);
            return x;
        }
    }

    private static final Harbour NEW = new Harbour("new", x -> { }, 0, 0, 0);
    private static final Harbour SOME = new Harbour("some", x -> fillSome(x), 3, 2, 2);
    private static final Harbour FULL = new Harbour("full", x -> fillAll(x), 20, 12, 10);

    public static void main(String[] args) {
        for (Harbour harbour : new Harbour[] {NEW, SOME, FULL}) {
            ofPatterns(harbour);
            ofLamps(harbour);
            ofChartsAndPilots(harbour);
        }
        ofFailing();
        ofDrafts();
        Due.end();
    }

    /** Three patterns, a lamp and a failed one, two charts that are behind, and a draft of three. */
    private static void fillSome(LampRhythms x) {
        Due.pattern(x, 1, 2);
        Due.pattern(x, 3, 1);
        Due.pattern(x, 1, 2, 1, 2);
        x.print();
        x.lamp(3, 4, 0, 5, 255);
        x.print();
        x.lamp(4, 4, 1, 5, 129);
        x.change(0, 2, 1);
        x.fail(1, true);
        x.correct(0, 1);
        draft(x, 3);
    }

    /** All patterns, lamps and charts that can be, of which lamp 11 has failed, and a draft of six. */
    private static void fillAll(LampRhythms x) {
        for (int i = 0; i < 20; i++) {
            Due.pattern(x, 1 + i % 9, 1 + i / 9);
        }
        for (int i = 0; i < 12; i++) {
            x.lamp(i, 31 - i, i, 10, 255);
        }
        for (int i = 0; i < 9; i++) {
            x.print();
        }
        x.fail(11, true);
        x.print();
        x.change(0, 19, 59);
        draft(x, 6);
    }

    private static void draft(LampRhythms x, int phases) {
        for (int i = 0; i < phases; i++) {
            x.phase(2 + i);
        }
    }

    private static void ofPatterns(Harbour h) {
        Argument pattern = numberOf(h.patterns);
        refused(h, "phase", h == FULL, (x, a) -> x.phase(a[0]), range(1, 9));
        refused(h, "pattern", true, (x, a) -> x.pattern());
        refused(h, "period", false, (x, a) -> x.period(a[0]), pattern);
        refused(h, "areAlike", false, (x, a) -> x.areAlike(a[0], a[1]), pattern, pattern);
        refused(h, "areAlikeBySeconds", false, (x, a) -> x.areAlikeBySeconds(a[0], a[1]), pattern, pattern);
    }

    private static void ofLamps(Harbour h) {
        Argument lamp = numberOf(h.lamps);
        Argument pattern = numberOf(h.patterns);
        Argument side = range(0, 31);
        refused(h, "lamp", h == FULL, (x, a) -> x.lamp(a[0], a[1], a[2], a[3], a[4]),
                side, side, pattern, range(1, 40), range(1, 255));
        refused(h, "change", false, (x, a) -> x.change(a[0], a[1], a[2]), lamp, pattern, range(0, 59));
        refused(h, "fail, true", false, (x, a) -> x.fail(a[0], true), lamp);
        refused(h, "fail, false", false, (x, a) -> x.fail(a[0], false), lamp);
        refused(h, "shines", false, (x, a) -> x.shines(a[0], a[1]), lamp, range(0, 100000));
        refused(h, "sector", false, (x, a) -> x.sector(a[0], a[1], a[2]), lamp, side, side);
        refused(h, "isSeen", false, (x, a) -> x.isSeen(a[0], a[1], a[2]), lamp, side, side);
        refused(h, "common", false, (x, a) -> x.common(a[0], a[1]), lamp, lamp);
    }

    private static void ofChartsAndPilots(Harbour h) {
        Argument chart = numberOf(h.charts);
        Argument lamp = numberOf(h.lamps);
        Argument side = range(0, 31);
        if (h == FULL) {
            refused(h, "print", true, (x, a) -> x.print());
        }
        refused(h, "correct", false, (x, a) -> x.correct(a[0], a[1]), chart, range(1, 100));
        refused(h, "behind", false, (x, a) -> x.behind(a[0]), chart);
        refused(h, "shown", false, (x, a) -> x.shown(a[0], a[1]), chart, lamp);
        refused(h, "taken", false, (x, a) -> x.taken(a[0], a[1], a[2], a[3], a[4], a[5]),
                chart, side, side, lamp, range(0, 1000), range(1, 60));
    }

    private static void ofFailing() {
        refused(SOME, "fail what has failed", true, (x, a) -> x.fail(1, true));
        refused(SOME, "mend what has not failed", true, (x, a) -> x.fail(0, false));
        refused(FULL, "fail what has failed", true, (x, a) -> x.fail(11, true));
        refused(FULL, "mend what has not failed", true, (x, a) -> x.fail(0, false));
    }

    private static void ofDrafts() {
        for (int phases : new int[] {0, 1, 3, 5}) {
            Harbour few = new Harbour("a draft of " + phases, x -> draft(x, phases), 0, 0, 0);
            refused(few, "pattern", true, (x, a) -> x.pattern());
        }
        for (int phases = 0; phases <= 6; phases++) {
            int drafted = phases;
            Harbour all = new Harbour("20 patterns, a draft of " + phases, x -> {
                fillPatterns(x);
                draft(x, drafted);
            }, 20, 0, 0);
            refused(all, "pattern", true, (x, a) -> x.pattern());
        }
        Harbour six = new Harbour("a draft of 6", x -> draft(x, 6), 0, 0, 0);
        refused(six, "phase", true, (x, a) -> x.phase(a[0]), range(1, 9));
    }

    private static void fillPatterns(LampRhythms x) {
        for (int i = 0; i < 20; i++) {
            Due.pattern(x, 9, 9);
        }
    }

    private static Argument numberOf(int many) {
        return new Argument(INDEX, 0, many - 1);
    }

    private static Argument range(int least, int most) {
        return new Argument(ARGUMENT, least, most);
    }

    /** Makes each call that is refused, of all the values that are tried for each argument. */
    private static void refused(Harbour h, String name, boolean byState, Asked asked, Argument... arguments) {
        List<int[]> wrong = new ArrayList<>();
        for (int[] values : allOf(arguments)) {
            if (byState || !exceptionOf(arguments, values).equals(STATE)) {
                wrong.add(values);
            }
        }
        Due.answer(h.name + ": calls of " + name + " that are refused", wrong.isEmpty(), false);
        List<Object> due = portraitOf(h.made(), h);
        for (int start = 0; start < wrong.size(); start += CALLS_OF_AN_OBJECT) {
            LampRhythms x = h.made();
            int end = Math.min(start + CALLS_OF_AN_OBJECT, wrong.size());
            for (int[] values : wrong.subList(start, end)) {
                String call = h.name + ": " + name + Arrays.toString(values);
                Due.answer(call, answerOf(() -> asked.of(x, values)), exceptionOf(arguments, values));
            }
            Due.answer(h.name + ": all, after calls of " + name, portraitOf(x, h), due);
        }
    }

    private static List<int[]> allOf(Argument[] arguments) {
        List<int[]> all = new ArrayList<>();
        all.add(new int[0]);
        for (Argument argument : arguments) {
            List<int[]> longer = new ArrayList<>();
            for (int[] values : all) {
                for (int value : argument.tried()) {
                    int[] more = Arrays.copyOf(values, values.length + 1);
                    more[values.length] = value;
                    longer.add(more);
                }
            }
            all = longer;
        }
        return all;
    }

    /** The one that stands first in the throws clause; that of the state if the arguments are right. */
    private static String exceptionOf(Argument[] arguments, int[] values) {
        String first = STATE;
        for (int i = 0; i < values.length; i++) {
            if (!arguments[i].allows(values[i]) && !first.equals(INDEX)) {
                first = arguments[i].exception;
            }
        }
        return first;
    }

    private static Object answerOf(Callable<?> call) {
        try {
            return call.call();
        } catch (Exception e) {
            return Due.nameOf(e);
        }
    }

    /** What the object answers, first to questions and then to calls that show its draft and its numbers. */
    private static List<Object> portraitOf(LampRhythms x, Harbour h) {
        List<Object> told = new ArrayList<>();
        told.add(x.notices());
        told.add(x.clashes());
        for (int i = 0; i <= h.patterns; i++) {
            int pattern = i;
            told.add(answerOf(() -> x.period(pattern)));
        }
        for (int i = 0; i <= h.lamps; i++) {
            tellLamp(told, x, i);
        }
        for (int i = 0; i <= h.charts; i++) {
            tellChart(told, x, i, h.lamps);
        }
        tellNext(told, x);
        return told;
    }

    private static void tellLamp(List<Object> told, LampRhythms x, int lamp) {
        for (int second = 0; second < 4; second++) {
            int asked = second;
            told.add(answerOf(() -> x.shines(lamp, asked)));
        }
        told.add(answerOf(() -> x.sector(lamp, 5, 6)));
        told.add(answerOf(() -> x.isSeen(lamp, 5, 6)));
        told.add(answerOf(() -> x.common(lamp, 0)));
    }

    private static void tellChart(List<Object> told, LampRhythms x, int chart, int lamps) {
        told.add(answerOf(() -> x.behind(chart)));
        for (int i = 0; i < lamps; i++) {
            int lamp = i;
            told.add(answerOf(() -> x.shown(chart, lamp)));
        }
        told.add(answerOf(() -> x.taken(chart, 4, 4, 0, 0, 6)));
    }

    private static void tellNext(List<Object> told, LampRhythms x) {
        told.add(answerOf(() -> x.phase(9)));
        told.add(answerOf(() -> x.pattern()));
        told.add(answerOf(() -> x.phase(9)));
        told.add(answerOf(() -> x.pattern()));
        for (int number : new int[] {0, 3, 20}) {
            told.add(answerOf(() -> x.period(number)));
        }
        told.add(answerOf(() -> x.lamp(5, 5, 0, 1, 255)));
        told.add(answerOf(() -> x.change(0, 0, 0)));
        told.add(answerOf(() -> x.fail(0, true)));
        told.add(answerOf(() -> x.print()));
        told.add(answerOf(() -> x.correct(0, 100)));
        told.add(x.notices());
    }
}
