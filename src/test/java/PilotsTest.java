/** Promise 20: taken. */
final class PilotsTest {
    private static final int[] FAR_OFF = {Integer.MIN_VALUE, Integer.MAX_VALUE};

    public static void main(String[] args) {
        tellsByRhythm();
        anyBeginning();
        byTheChart();
        failedLight();
        onlyWhatCanBeSeen();
        longLooks();
        wrong();
        Due.end();
    }

    /** Lamp 0 flashes 1 of 3 seconds, lamp 1 shines 3 of 4; both can be seen from the places between. */
    private static LampRhythms harbour() {
        LampRhythms x = new LampRhythms();
        Due.pattern(x, 1, 2);
        Due.pattern(x, 3, 1);
        Due.pattern(x, 1, 2, 1, 2, 1, 2);
        x.lamp(10, 10, 0, 5, 255);
        x.lamp(12, 10, 1, 5, 255);
        x.print();
        return x;
    }

    private static void tellsByRhythm() {
        LampRhythms x = harbour();
        Due.answer("light only, for a second", x.taken(0, 11, 10, 0, 0, 1), -2);
        Due.answer("dark only, for a second", x.taken(0, 11, 10, 0, 1, 1), -2);
        Due.answer("two dark seconds", x.taken(0, 11, 10, 0, 1, 2), 0);
        Due.answer("two light seconds", x.taken(0, 11, 10, 1, 0, 2), 1);
        Due.answer("light and dark", x.taken(0, 11, 10, 0, 0, 2), -2);
        Due.answer("light and twice dark", x.taken(0, 11, 10, 0, 0, 3), 0);
        Due.answer("of lamp 1, the last light and the dark", x.taken(0, 11, 10, 1, 2, 2), -2);
        Due.answer("of lamp 1, dark between light", x.taken(0, 11, 10, 1, 2, 3), 1);
    }

    private static void anyBeginning() {
        LampRhythms x = harbour();
        for (int begins = 0; begins < 60; begins++) {
            x.change(0, 0, begins);
            Due.answer("lamp 0 begun at " + begins, x.taken(0, 11, 10, 0, 0, 12), 0);
        }
        for (int from = 0; from < 8; from++) {
            Due.answer("from " + from, x.taken(0, 11, 10, 1, from, 60), 1);
        }
        Due.answer("from the last second", x.taken(0, 11, 10, 1, 1000, 60), 1);
    }

    private static void byTheChart() {
        LampRhythms x = harbour();
        x.change(0, 1, 0);
        Due.answer("changed, the chart not corrected", x.taken(0, 11, 10, 0, 0, 8), 1);
        x.change(1, 0, 0);
        Due.answer("both changed, the chart not corrected", x.taken(0, 11, 10, 1, 0, 8), 0);
        x.correct(0, 1);
        Due.answer("by half the notices", x.taken(0, 11, 10, 0, 0, 8), -2);
        Due.answer("by half the notices", x.taken(0, 11, 10, 1, 0, 8), -1);
        x.correct(0, 1);
        Due.answer("the chart corrected", x.taken(0, 11, 10, 0, 0, 8), 0);
        x.lamp(11, 11, 0, 5, 255);
        Due.answer("a lamp that the chart does not show", x.taken(0, 11, 10, 2, 0, 8), 1);
        Due.answer("one more lamp, not yet shown", x.taken(0, 11, 10, 1, 0, 8), 1);
        x.correct(0, 1);
        Due.answer("a lamp that the chart shows", x.taken(0, 11, 10, 2, 0, 8), -2);
        x.change(1, 2, 0);
        x.correct(0, 1);
        Due.answer("an alike pattern", x.taken(0, 11, 10, 2, 0, 60), -2);
    }

    private static void failedLight() {
        LampRhythms x = harbour();
        x.fail(0, true);
        Due.answer("failed, dark for a second", x.taken(0, 11, 10, 0, 0, 1), -2);
        Due.answer("failed, dark for 2", x.taken(0, 11, 10, 0, 0, 2), 0);
        Due.answer("failed, dark for 3", x.taken(0, 11, 10, 0, 0, 3), -1);
        x.correct(0, 1);
        Due.answer("failed by the chart, dark for a second", x.taken(0, 11, 10, 0, 0, 1), 1);
        Due.answer("failed by the chart, dark for 2", x.taken(0, 11, 10, 0, 0, 2), -1);
        x.fail(0, false);
        Due.answer("mended, but failed by the chart", x.taken(0, 11, 10, 0, 0, 6), -1);
        x.correct(0, 1);
        Due.answer("mended by the chart", x.taken(0, 11, 10, 0, 0, 6), 0);
    }

    private static void onlyWhatCanBeSeen() {
        LampRhythms x = harbour();
        Due.answer("beyond all reach", x.taken(0, 31, 10, 0, 0, 6), -1);
        Due.answer("lamp 0 from where lamp 1 alone can be seen", x.taken(0, 17, 10, 0, 0, 6), -1);
        Due.answer("lamp 0 from the edge of its reach", x.taken(0, 15, 15, 0, 0, 6), 0);
        Due.answer("a second of lamp 0 where lamp 1 alone can be seen", x.taken(0, 17, 10, 0, 0, 1), 1);
        x.lamp(11, 10, 0, 40, 1);
        x.correct(0, 100);
        Due.answer("from the place of lamp 2", x.taken(0, 11, 10, 0, 0, 6), -2);
        Due.answer("from out of the sector of lamp 2", x.taken(0, 10, 10, 0, 0, 6), 0);
        Due.answer("from the sector of lamp 2 alone", x.taken(0, 31, 10, 0, 0, 6), 2);
        Due.answer("lamp 1 there", x.taken(0, 31, 10, 1, 0, 6), -1);
    }

    private static void longLooks() {
        LampRhythms x = new LampRhythms();
        Due.pattern(x, 9, 9, 9, 9, 9, 9);
        Due.pattern(x, 9, 9, 9, 9, 9, 8);
        x.lamp(0, 0, 0, 40, 255);
        x.lamp(0, 0, 1, 40, 255);
        x.print();
        Due.answer("45 seconds alike", x.taken(0, 1, 1, 1, 0, 45), -2);
        Due.answer("53 seconds alike", x.taken(0, 1, 1, 1, 0, 53), -2);
        Due.answer("54 seconds not alike", x.taken(0, 1, 1, 1, 0, 54), 1);
        Due.answer("54 seconds not alike", x.taken(0, 1, 1, 0, 0, 54), 0);
        Due.answer("60 seconds", x.taken(0, 1, 1, 0, 0, 60), 0);
        Due.answer("60 seconds from 7", x.taken(0, 1, 1, 1, 7, 60), 1);
        Due.answer("8 seconds of dark and 9 of light", x.taken(0, 1, 1, 1, 44, 18), 1);
    }

    private static void wrong() {
        LampRhythms x = harbour();
        for (int bad : new int[] {-1, 1, 10, FAR_OFF[0], FAR_OFF[1]}) {
            Due.noSuch("taken with chart " + bad, () -> x.taken(bad, 0, 0, 0, 0, 1));
            Due.noSuch("taken with chart " + bad + " and many", () -> x.taken(bad, 0, 0, 0, 0, 0));
        }
        for (int bad : new int[] {-1, 2, 12, FAR_OFF[0], FAR_OFF[1]}) {
            Due.noSuch("taken with lamp " + bad, () -> x.taken(0, 0, 0, bad, 0, 1));
            Due.noSuch("taken with lamp " + bad + " and x", () -> x.taken(0, 32, 0, bad, 0, 1));
        }
        for (int bad : new int[] {-1, 32, FAR_OFF[0], FAR_OFF[1]}) {
            Due.badArgument("taken with x " + bad, () -> x.taken(0, bad, 0, 0, 0, 1));
            Due.badArgument("taken with y " + bad, () -> x.taken(0, 0, bad, 0, 0, 1));
        }
        for (int bad : new int[] {-1, 1001, FAR_OFF[0], FAR_OFF[1]}) {
            Due.badArgument("taken with from " + bad, () -> x.taken(0, 0, 0, 0, bad, 1));
        }
        for (int bad : new int[] {-1, 0, 61, FAR_OFF[0], FAR_OFF[1]}) {
            Due.badArgument("taken with many " + bad, () -> x.taken(0, 0, 0, 0, 0, bad));
        }
    }
}
