/** Promises 15 to 19: notices, print, correct, behind, shown. */
final class ChartsTest {
    private static final int[] FAR_OFF = {Integer.MIN_VALUE, Integer.MAX_VALUE};

    public static void main(String[] args) {
        notices();
        print();
        mostCharts();
        correct();
        correctMany();
        correctWrong();
        behind();
        shown();
        shownWrong();
        Due.end();
    }

    private static LampRhythms harbour() {
        LampRhythms x = new LampRhythms();
        Due.pattern(x, 1, 2);
        Due.pattern(x, 3, 1);
        Due.pattern(x, 2, 2);
        return x;
    }

    private static void notices() {
        LampRhythms x = harbour();
        Due.answer("notices() of patterns alone", x.notices(), 0);
        x.lamp(0, 0, 0, 1, 1);
        Due.answer("notices() with a lamp", x.notices(), 1);
        x.lamp(0, 0, 1, 1, 1);
        Due.answer("notices() with two lamps", x.notices(), 2);
        Due.answer("change", x.change(0, 0, 0), 2);
        Due.answer("notices() with a change", x.notices(), 3);
        Due.answer("fail", x.fail(1, true), 3);
        Due.answer("notices() with a failure", x.notices(), 4);
        Due.answer("mend", x.fail(1, false), 4);
        Due.answer("notices() with one mended", x.notices(), 5);
        x.print();
        x.correct(0, 1);
        x.taken(0, 0, 0, 0, 0, 1);
        Due.answer("notices() with a chart", x.notices(), 5);
    }

    private static void print() {
        LampRhythms x = harbour();
        Due.answer("print() of nothing", x.print(), 0);
        x.lamp(0, 0, 0, 1, 1);
        x.lamp(0, 0, 1, 1, 1);
        x.fail(1, true);
        Due.answer("print()", x.print(), 1);
        Due.answer("behind(0)", x.behind(0), 3);
        Due.answer("behind(1)", x.behind(1), 0);
        Due.answer("shown(0, 0)", x.shown(0, 0), -1);
        Due.answer("shown(1, 0)", x.shown(1, 0), 0);
        Due.answer("shown(1, 1), failed", x.shown(1, 1), -1);
        x.change(0, 2, 0);
        Due.answer("print()", x.print(), 2);
        Due.answer("shown(1, 0), not corrected", x.shown(1, 0), 0);
        Due.answer("shown(2, 0)", x.shown(2, 0), 2);
    }

    private static void mostCharts() {
        LampRhythms x = harbour();
        for (int i = 0; i < 10; i++) {
            Due.answer("chart " + i, x.print(), i);
        }
        Due.badState("the 11th chart", () -> x.print());
        Due.answer("behind(9)", x.behind(9), 0);
        Due.noSuch("behind(10)", () -> x.behind(10));
    }

    private static void correct() {
        LampRhythms x = harbour();
        x.print();
        x.print();
        x.lamp(0, 0, 0, 1, 1);
        x.lamp(0, 0, 1, 1, 1);
        x.change(0, 2, 5);
        x.fail(1, true);
        x.fail(1, false);
        int[][] due = {{0, -1}, {0, 1}, {2, 1}, {2, -1}, {2, 1}};
        for (int i = 0; i < due.length; i++) {
            Due.answer("correct(0, 1)", x.correct(0, 1), 1);
            Due.answer("behind(0) after " + i, x.behind(0), 4 - i);
            Due.answer("shown(0, 0) after " + i, x.shown(0, 0), due[i][0]);
            Due.answer("shown(0, 1) after " + i, x.shown(0, 1), due[i][1]);
        }
        Due.answer("correct(0, 1), none left", x.correct(0, 1), 0);
        Due.answer("behind(1), the other chart", x.behind(1), 5);
        Due.answer("shown(1, 0), the other chart", x.shown(1, 0), -1);
        Due.answer("correct(1, 3)", x.correct(1, 3), 3);
        Due.answer("shown(1, 0)", x.shown(1, 0), 2);
        Due.answer("correct(1, 3), two left", x.correct(1, 3), 2);
        Due.answer("behind(1)", x.behind(1), 0);
        x.change(0, 0, 0);
        Due.answer("correct(1, 1), a later one", x.correct(1, 1), 1);
        Due.answer("shown(1, 0)", x.shown(1, 0), 0);
    }

    private static void correctMany() {
        LampRhythms x = harbour();
        x.lamp(0, 0, 0, 1, 1);
        x.print();
        for (int i = 0; i < 250; i++) {
            x.change(0, i % 3, 0);
        }
        Due.answer("behind(0)", x.behind(0), 250);
        Due.answer("correct(0, 100)", x.correct(0, 100), 100);
        Due.answer("shown(0, 0)", x.shown(0, 0), 99 % 3);
        Due.answer("correct(0, 100)", x.correct(0, 100), 100);
        Due.answer("behind(0)", x.behind(0), 50);
        Due.answer("correct(0, 100), 50 left", x.correct(0, 100), 50);
        Due.answer("shown(0, 0)", x.shown(0, 0), 249 % 3);
        Due.answer("behind(0)", x.behind(0), 0);
        Due.answer("print() with many notices", x.print(), 1);
        Due.answer("behind(1)", x.behind(1), 0);
        Due.answer("shown(1, 0)", x.shown(1, 0), 249 % 3);
        Due.answer("correct(1, 100)", x.correct(1, 100), 0);
    }

    private static void correctWrong() {
        LampRhythms x = harbour();
        x.print();
        x.lamp(0, 0, 0, 1, 1);
        for (int bad : new int[] {-1, 0, 101, FAR_OFF[0], FAR_OFF[1]}) {
            Due.badArgument("correct(0, " + bad + ")", () -> x.correct(0, bad));
            Due.noSuch("correct(1, " + bad + ")", () -> x.correct(1, bad));
        }
        for (int bad : new int[] {-1, 1, 10, FAR_OFF[0], FAR_OFF[1]}) {
            Due.noSuch("correct(" + bad + ", 1)", () -> x.correct(bad, 1));
        }
        Due.answer("behind(0) after throws", x.behind(0), 1);
        Due.answer("shown(0, 0) after throws", x.shown(0, 0), -1);
    }

    private static void behind() {
        LampRhythms x = harbour();
        x.lamp(0, 0, 0, 1, 1);
        x.print();
        Due.answer("behind(0)", x.behind(0), 0);
        x.change(0, 0, 0);
        x.fail(0, true);
        Due.answer("behind(0)", x.behind(0), 2);
        x.correct(0, 1);
        Due.answer("behind(0)", x.behind(0), 1);
        for (int bad : new int[] {-1, 1, 10, FAR_OFF[0], FAR_OFF[1]}) {
            Due.noSuch("behind(" + bad + ")", () -> x.behind(bad));
        }
    }

    private static void shown() {
        LampRhythms x = harbour();
        x.lamp(0, 0, 1, 1, 1);
        x.fail(0, true);
        x.change(0, 2, 0);
        x.print();
        Due.answer("shown(0, 0), changed while failed", x.shown(0, 0), -1);
        x.fail(0, false);
        Due.answer("shown(0, 0), mended but not corrected", x.shown(0, 0), -1);
        x.correct(0, 1);
        Due.answer("shown(0, 0), mended", x.shown(0, 0), 2);
        for (int i = 1; i < 12; i++) {
            x.lamp(i, i, i % 3, 1, 1);
        }
        Due.answer("shown(0, 11), not yet", x.shown(0, 11), -1);
        x.correct(0, 10);
        Due.answer("shown(0, 10)", x.shown(0, 10), 1);
        Due.answer("shown(0, 11), not yet", x.shown(0, 11), -1);
        x.correct(0, 1);
        Due.answer("shown(0, 11)", x.shown(0, 11), 2);
    }

    private static void shownWrong() {
        LampRhythms x = harbour();
        x.lamp(0, 0, 0, 1, 1);
        x.print();
        for (int bad : new int[] {-1, 1, 10, 12, FAR_OFF[0], FAR_OFF[1]}) {
            Due.noSuch("shown(" + bad + ", 0)", () -> x.shown(bad, 0));
            Due.noSuch("shown(0, " + bad + ")", () -> x.shown(0, bad));
        }
    }
}
