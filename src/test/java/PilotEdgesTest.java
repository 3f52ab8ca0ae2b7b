/** The boundary cases of promise 20, a method for each; the calls that are refused have RefusedTest. */
final class PilotEdgesTest {
    private static final int NONE = LampRhythms.NONE;
    private static final int SEVERAL = LampRhythms.SEVERAL;
    private static final int ALL = 255;

    public static void main(String[] args) {
        leastAndGreatestMany();
        theSixtiethSecondTells();
        leastAndGreatestFrom();
        placesInTheCorners();
        firstAndLastOfAll();
        wrongsTogether();
        chartOfNothing();
        noneOneAndSeveral();
        twelveThatAreAlike();
        lookRoundThePeriod();
        lookRoundBehindTheBeginning();
        begunAtTheLastSecond();
        longestPeriod();
        seenAtTheReach();
        lightThatCannotBeSeen();
        failedLight();
        failedByTheChart();
        noticesNotPutIn();
        questionChangesNothing();
        Due.end();
    }

    /** Lamp 0 flashes 1 of 3 seconds, lamp 1 shines 3 of 4; both can be seen from everywhere. */
    private static LampRhythms harbour() {
        LampRhythms x = new LampRhythms();
        Due.pattern(x, 1, 2);
        Due.pattern(x, 3, 1);
        x.lamp(10, 10, 0, 40, ALL);
        x.lamp(12, 10, 1, 40, ALL);
        x.print();
        return x;
    }

    private static void leastAndGreatestMany() {
        LampRhythms x = harbour();
        Due.badArgument("0 seconds", () -> x.taken(0, 5, 5, 0, 0, 0));
        Due.answer("1 second", x.taken(0, 5, 5, 0, 0, 1), SEVERAL);
        Due.answer("60 seconds", x.taken(0, 5, 5, 0, 0, 60), 0);
        Due.answer("60 seconds of the other", x.taken(0, 5, 5, 1, 0, 60), 1);
        Due.badArgument("61 seconds", () -> x.taken(0, 5, 5, 0, 0, 61));
    }

    /** From its second 47 of 53 the light is dark 6 seconds, then 9 by turns, and dark 8 seconds till the 59th. */
    private static void theSixtiethSecondTells() {
        LampRhythms x = new LampRhythms();
        Due.pattern(x, 9, 9, 9, 9, 9, 9);
        Due.pattern(x, 9, 9, 9, 9, 9, 8);
        x.lamp(0, 0, 0, 40, ALL);
        x.lamp(0, 0, 1, 40, ALL);
        x.print();
        Due.answer("59 seconds, which both could be", x.taken(0, 0, 0, 1, 47, 59), SEVERAL);
        Due.answer("60 seconds, which one could be", x.taken(0, 0, 0, 1, 47, 60), 1);
    }

    private static void leastAndGreatestFrom() {
        LampRhythms x = harbour();
        Due.badArgument("from -1", () -> x.taken(0, 5, 5, 0, -1, 3));
        Due.answer("from 0", x.taken(0, 5, 5, 0, 0, 3), 0);
        // The second 1000 is the second 1 of 3: dark, dark.
        Due.answer("from 1000", x.taken(0, 5, 5, 0, 1000, 2), 0);
        Due.answer("from 1000, 60 seconds", x.taken(0, 5, 5, 0, 1000, 60), 0);
        Due.badArgument("from 1001", () -> x.taken(0, 5, 5, 0, 1001, 3));
        x.change(0, 0, 1);
        // Begun at 1 it is the second 2 of 3: dark, light.
        Due.answer("from 1000, begun at 1", x.taken(0, 5, 5, 0, 1000, 2), SEVERAL);
    }

    private static void placesInTheCorners() {
        LampRhythms x = harbour();
        for (int[] corner : new int[][] {{0, 0}, {31, 0}, {0, 31}, {31, 31}}) {
            String told = "from " + corner[0] + ", " + corner[1];
            Due.answer(told, x.taken(0, corner[0], corner[1], 0, 0, 60), 0);
        }
        Due.badArgument("from -1, 0", () -> x.taken(0, -1, 0, 0, 0, 60));
        Due.badArgument("from 0, -1", () -> x.taken(0, 0, -1, 0, 0, 60));
        Due.badArgument("from 32, 0", () -> x.taken(0, 32, 0, 0, 0, 60));
        Due.badArgument("from 0, 32", () -> x.taken(0, 0, 32, 0, 0, 60));
    }

    private static void firstAndLastOfAll() {
        LampRhythms x = new LampRhythms();
        for (int i = 0; i < 12; i++) {
            Due.pattern(x, 1 + i % 9, 1 + i / 9);
            x.lamp(i, i, i, 40, ALL);
        }
        for (int i = 0; i < 10; i++) {
            x.print();
        }
        for (int chart = 0; chart < 10; chart += 9) {
            for (int lamp = 0; lamp < 12; lamp++) {
                Due.answer("chart " + chart + ", lamp " + lamp, x.taken(chart, 31, 31, lamp, 0, 60), lamp);
            }
        }
        Due.noSuch("chart 10", () -> x.taken(10, 0, 0, 0, 0, 60));
        Due.noSuch("chart -1", () -> x.taken(-1, 0, 0, 0, 0, 60));
        Due.noSuch("lamp 12", () -> x.taken(9, 0, 0, 12, 0, 60));
        Due.noSuch("lamp -1", () -> x.taken(9, 0, 0, -1, 0, 60));
    }

    private static void wrongsTogether() {
        LampRhythms x = harbour();
        Due.noSuch("the chart, and all else", () -> x.taken(1, 32, 32, 2, 1001, 61));
        Due.noSuch("the lamp, and the place", () -> x.taken(0, -1, -1, 2, 0, 1));
        Due.noSuch("the lamp, and from", () -> x.taken(0, 0, 0, 2, 1001, 1));
        Due.noSuch("the lamp, and many", () -> x.taken(0, 0, 0, 2, 0, 0));
        Due.badArgument("all that are not numbers", () -> x.taken(0, -1, 32, 0, -1, 0));
    }

    private static void chartOfNothing() {
        LampRhythms x = new LampRhythms();
        x.print();
        Due.noSuch("no lamp", () -> x.taken(0, 0, 0, 0, 0, 1));
        Due.pattern(x, 1, 2);
        x.lamp(0, 0, 0, 40, ALL);
        Due.answer("a lamp, none in the chart", x.taken(0, 0, 0, 0, 0, 1), NONE);
        x.correct(0, 1);
        Due.answer("the lamp, in the chart", x.taken(0, 0, 0, 0, 0, 1), 0);
    }

    private static void noneOneAndSeveral() {
        LampRhythms x = harbour();
        x.lamp(14, 10, 0, 40, ALL);
        Due.answer("one by the chart", x.taken(0, 5, 5, 2, 0, 60), 0);
        x.correct(0, 1);
        Due.answer("two", x.taken(0, 5, 5, 2, 0, 60), SEVERAL);
        x.fail(0, true);
        x.correct(0, 1);
        Due.answer("the later one", x.taken(0, 5, 5, 2, 0, 60), 2);
        x.change(2, 1, 0);
        Due.answer("none is so", x.taken(0, 5, 5, 0, 0, 60), NONE);
    }

    private static void twelveThatAreAlike() {
        LampRhythms x = new LampRhythms();
        Due.pattern(x, 9, 9);
        for (int i = 0; i < 12; i++) {
            x.lamp(i, i, 0, i == 11 ? 40 : 1, ALL);
        }
        x.print();
        Due.answer("all but one are far", x.taken(0, 31, 31, 0, 0, 60), 11);
        Due.answer("some are near", x.taken(0, 5, 5, 0, 0, 60), SEVERAL);
        for (int i = 0; i < 11; i++) {
            x.fail(i, true);
        }
        x.correct(0, 10);
        Due.answer("two have not failed by the chart", x.taken(0, 10, 10, 11, 0, 60), SEVERAL);
        x.correct(0, 1);
        Due.answer("one has not failed by the chart", x.taken(0, 10, 10, 11, 0, 60), 11);
        x.fail(11, true);
        x.correct(0, 1);
        Due.answer("all have failed by the chart", x.taken(0, 10, 10, 11, 0, 1), NONE);
    }

    /** Looks that begin in the last second of a period, end with it, or go over two of its ends. */
    private static void lookRoundThePeriod() {
        LampRhythms x = harbour();
        Due.answer("dark dark, to the end", x.taken(0, 5, 5, 0, 1, 2), 0);
        Due.answer("dark light, over the end", x.taken(0, 5, 5, 0, 2, 2), SEVERAL);
        Due.answer("dark light dark, over the end", x.taken(0, 5, 5, 0, 2, 3), 0);
        Due.answer("light dark dark light, over the end", x.taken(0, 5, 5, 0, 3, 4), 0);
        Due.answer("dark light light, over the end", x.taken(0, 5, 5, 1, 3, 3), 1);
        Due.answer("light dark light, over the end", x.taken(0, 5, 5, 1, 2, 3), 1);
        Due.answer("over two ends", x.taken(0, 5, 5, 1, 7, 6), 1);
    }

    private static void lookRoundBehindTheBeginning() {
        LampRhythms x = harbour();
        for (int begins = 57; begins <= 59; begins++) {
            x.change(0, 0, begins);
            for (int from = 0; from < 3; from++) {
                String told = "begun at " + begins + ", from " + from;
                boolean darkTwice = (begins + from) % 3 == 1;
                Due.answer(told, x.taken(0, 5, 5, 0, from, 2), darkTwice ? 0 : SEVERAL);
                Due.answer(told + ", 3 seconds", x.taken(0, 5, 5, 0, from, 3), 0);
            }
        }
    }

    /** The light is as the pattern of the chart would be, begun at its last second or at its first. */
    private static void begunAtTheLastSecond() {
        LampRhythms x = new LampRhythms();
        Due.pattern(x, 1, 1, 9, 9);
        x.lamp(0, 0, 0, 40, ALL);
        x.print();
        Due.answer("from the first second", x.taken(0, 0, 0, 0, 0, 60), 0);
        Due.answer("from the last second", x.taken(0, 0, 0, 0, 19, 60), 0);
        Due.answer("from the last second, to the first flash's end", x.taken(0, 0, 0, 0, 19, 3), 0);
    }

    private static void longestPeriod() {
        LampRhythms x = new LampRhythms();
        Due.pattern(x, 9, 9, 9, 9, 9, 9);
        Due.pattern(x, 1, 1);
        x.lamp(0, 0, 0, 40, ALL);
        x.lamp(0, 0, 1, 40, ALL);
        x.print();
        for (int from : new int[] {0, 1, 9, 53, 54, 1000}) {
            Due.answer("9 of 9, from " + from, x.taken(0, 0, 0, 0, from, 60), 0);
            Due.answer("1 of 1, from " + from, x.taken(0, 0, 0, 1, from, 60), 1);
            Due.answer("1 of 1, 3 seconds from " + from, x.taken(0, 0, 0, 1, from, 3), 1);
        }
    }

    private static void seenAtTheReach() {
        LampRhythms x = new LampRhythms();
        Due.pattern(x, 1, 2);
        x.lamp(10, 10, 0, 5, 1);
        x.print();
        Due.answer("from its place", x.taken(0, 10, 10, 0, 0, 6), 0);
        Due.answer("from its reach", x.taken(0, 15, 10, 0, 0, 6), 0);
        Due.answer("from beyond", x.taken(0, 16, 10, 0, 0, 6), NONE);
        Due.answer("from the last of its sector", x.taken(0, 15, 14, 0, 0, 6), 0);
        Due.answer("from the first out of it", x.taken(0, 15, 15, 0, 0, 6), NONE);
        Due.answer("from out of it, on the other side", x.taken(0, 15, 9, 0, 0, 6), NONE);
    }

    private static void lightThatCannotBeSeen() {
        LampRhythms x = new LampRhythms();
        Due.pattern(x, 1, 2);
        x.lamp(0, 0, 0, 1, ALL);
        x.lamp(31, 31, 0, 1, ALL);
        x.print();
        Due.answer("the first light where the second is", x.taken(0, 31, 31, 0, 0, 60), 1);
        Due.answer("the second light where the first is", x.taken(0, 0, 0, 1, 0, 60), 0);
        Due.answer("a light where none is", x.taken(0, 15, 15, 0, 0, 60), NONE);
    }

    private static void failedLight() {
        LampRhythms x = harbour();
        x.fail(0, true);
        Due.answer("dark for 1 second", x.taken(0, 5, 5, 0, 0, 1), SEVERAL);
        Due.answer("dark for 2 seconds", x.taken(0, 5, 5, 0, 0, 2), 0);
        Due.answer("dark for 3 seconds", x.taken(0, 5, 5, 0, 0, 3), NONE);
        Due.answer("dark for 60 seconds", x.taken(0, 5, 5, 0, 1000, 60), NONE);
    }

    private static void failedByTheChart() {
        LampRhythms x = harbour();
        x.fail(0, true);
        x.correct(0, 1);
        x.fail(0, false);
        Due.answer("mended, but failed by the chart", x.taken(0, 5, 5, 0, 0, 60), NONE);
        x.correct(0, 1);
        Due.answer("mended by the chart", x.taken(0, 5, 5, 0, 0, 60), 0);
    }

    private static void noticesNotPutIn() {
        LampRhythms x = harbour();
        x.change(0, 1, 0);
        x.change(1, 0, 0);
        Due.answer("the first as the second was", x.taken(0, 5, 5, 0, 0, 60), 1);
        Due.answer("the second as the first was", x.taken(0, 5, 5, 1, 0, 60), 0);
        x.correct(0, 1);
        Due.answer("both as the second was", x.taken(0, 5, 5, 0, 0, 60), SEVERAL);
        Due.answer("none as the first was", x.taken(0, 5, 5, 1, 0, 60), NONE);
        x.correct(0, 1);
        Due.answer("the first", x.taken(0, 5, 5, 0, 0, 60), 0);
        Due.answer("the second", x.taken(0, 5, 5, 1, 0, 60), 1);
    }

    private static void questionChangesNothing() {
        LampRhythms x = harbour();
        x.change(0, 1, 5);
        x.taken(0, 5, 5, 0, 0, 60);
        x.taken(0, 5, 5, 1, 1000, 1);
        Due.answer("behind(0)", x.behind(0), 1);
        Due.answer("shown(0, 0)", x.shown(0, 0), 0);
        Due.answer("notices()", x.notices(), 3);
        Due.answer("shines(0, 2), begun at 5", x.shines(0, 2), false);
    }
}
