/** The boundary cases of promises 15 to 19, a method for each; the calls that are refused have RefusedTest. */
final class ChartEdgesTest {
    private static final int NONE = LampRhythms.NONE;

    public static void main(String[] args) {
        noticesOfNothing();
        noticesOfRefusedCalls();
        asManyNoticesAsCalls();
        chartOfNothing();
        chartOfAll();
        lastChart();
        leastAndGreatestMany();
        correctWhatIsNotBehind();
        correctJustWhatIsLeft();
        correctOneBelowAndAbove();
        correctOneChartAlone();
        behindOfFirstAndLast();
        shownOfFirstAndLast();
        shownBeforeAndBehindTheNotice();
        shownOfAFailedLamp();
        shownAsTheNoticeTells();
        Due.end();
    }

    private static LampRhythms harbour() {
        LampRhythms x = new LampRhythms();
        Due.pattern(x, 1, 2);
        Due.pattern(x, 3, 1);
        return x;
    }

    /** A lamp, a chart that is not behind, and then so many notices more. */
    private static LampRhythms behind(int many) {
        LampRhythms x = harbour();
        x.lamp(0, 0, 0, 1, 1);
        x.print();
        for (int i = 1; i <= many; i++) {
            x.change(0, i % 2, 0);
        }
        return x;
    }

    // ---- promise 15

    private static void noticesOfNothing() {
        LampRhythms x = new LampRhythms();
        Due.answer("of nothing", x.notices(), 0);
        Due.pattern(x, 1, 2);
        x.print();
        x.correct(0, 100);
        Due.answer("of a pattern and a chart", x.notices(), 0);
        Due.answer("the first lamp", x.lamp(0, 0, 0, 1, 1), 0);
        Due.answer("of a lamp", x.notices(), 1);
        Due.answer("the notice 1, the second", x.fail(0, true), 1);
        Due.answer("of a lamp that failed", x.notices(), 2);
    }

    private static void noticesOfRefusedCalls() {
        LampRhythms x = harbour();
        x.lamp(0, 0, 0, 1, 1);
        Due.badArgument("no lamp", () -> x.lamp(0, 0, 0, 1, 0));
        Due.badArgument("no change", () -> x.change(0, 0, 60));
        Due.noSuch("no change", () -> x.change(0, 2, 0));
        Due.badState("nothing mended", () -> x.fail(0, false));
        Due.noSuch("no lamp to fail", () -> x.fail(1, true));
        Due.answer("notices()", x.notices(), 1);
        Due.answer("the next notice", x.change(0, 0, 0), 1);
    }

    /** The 512 calls of an object, nearly all of which make a notice. */
    private static void asManyNoticesAsCalls() {
        LampRhythms x = new LampRhythms();
        Due.pattern(x, 1, 2);
        x.print();
        x.lamp(0, 0, 0, 1, 1);
        for (int i = 1; i <= 500; i++) {
            Due.answer("the notice " + i, x.change(0, 0, i % 60), i);
        }
        Due.answer("notices(), the 506th call", x.notices(), 501);
        Due.answer("behind(0)", x.behind(0), 501);
        Due.answer("correct(0, 100)", x.correct(0, 100), 100);
        Due.answer("behind(0)", x.behind(0), 401);
        Due.answer("print()", x.print(), 1);
        Due.answer("behind(1)", x.behind(1), 0);
        Due.answer("shown(1, 0), the 512th call", x.shown(1, 0), 0);
    }

    // ---- promise 16

    private static void chartOfNothing() {
        LampRhythms x = harbour();
        Due.answer("print()", x.print(), 0);
        Due.answer("behind(0)", x.behind(0), 0);
        Due.answer("correct(0, 1)", x.correct(0, 1), 0);
        Due.noSuch("shown(0, 0), no lamp", () -> x.shown(0, 0));
        x.lamp(0, 0, 0, 1, 1);
        Due.answer("shown(0, 0), a later lamp", x.shown(0, 0), NONE);
        Due.answer("behind(0), a later lamp", x.behind(0), 1);
    }

    private static void chartOfAll() {
        LampRhythms x = behind(30);
        Due.answer("print()", x.print(), 1);
        Due.answer("behind(1)", x.behind(1), 0);
        Due.answer("behind(0), as it was", x.behind(0), 30);
        Due.answer("shown(1, 0)", x.shown(1, 0), 0);
    }

    private static void lastChart() {
        LampRhythms x = harbour();
        for (int i = 0; i < 9; i++) {
            Due.answer("chart " + i, x.print(), i);
        }
        Due.noSuch("behind(9), of 9", () -> x.behind(9));
        x.lamp(0, 0, 1, 1, 1);
        Due.answer("the 10th chart", x.print(), 9);
        Due.answer("shown(9, 0)", x.shown(9, 0), 1);
        Due.badState("the 11th chart", () -> x.print());
        Due.noSuch("behind(10)", () -> x.behind(10));
        Due.answer("behind(9)", x.behind(9), 0);
        Due.answer("behind(0)", x.behind(0), 1);
    }

    // ---- promise 17

    private static void leastAndGreatestMany() {
        LampRhythms x = behind(150);
        Due.badArgument("correct(0, 0)", () -> x.correct(0, 0));
        Due.badArgument("correct(0, 101)", () -> x.correct(0, 101));
        Due.answer("behind(0), as it was", x.behind(0), 150);
        Due.answer("correct(0, 1)", x.correct(0, 1), 1);
        Due.answer("behind(0)", x.behind(0), 149);
        Due.answer("correct(0, 100)", x.correct(0, 100), 100);
        Due.answer("behind(0)", x.behind(0), 49);
        Due.badArgument("correct(0, 101), 49 left", () -> x.correct(0, 101));
        Due.answer("behind(0), as it was", x.behind(0), 49);
    }

    private static void correctWhatIsNotBehind() {
        LampRhythms x = behind(0);
        Due.answer("correct(0, 1), none left", x.correct(0, 1), 0);
        Due.answer("correct(0, 100), none left", x.correct(0, 100), 0);
        Due.answer("behind(0)", x.behind(0), 0);
        Due.badArgument("correct(0, 0), none left", () -> x.correct(0, 0));
        Due.badArgument("correct(0, 101), none left", () -> x.correct(0, 101));
        x.change(0, 1, 0);
        Due.answer("behind(0)", x.behind(0), 1);
        Due.answer("shown(0, 0), not yet", x.shown(0, 0), 0);
        Due.answer("correct(0, 1)", x.correct(0, 1), 1);
        Due.answer("shown(0, 0)", x.shown(0, 0), 1);
    }

    private static void correctJustWhatIsLeft() {
        for (int many : new int[] {1, 2, 100}) {
            LampRhythms x = behind(many);
            Due.answer("just " + many, x.correct(0, many), many);
            Due.answer("behind(0) of " + many, x.behind(0), 0);
            Due.answer("shown(0, 0) of " + many, x.shown(0, 0), many % 2);
        }
    }

    private static void correctOneBelowAndAbove() {
        LampRhythms x = behind(99);
        Due.answer("100 of 99", x.correct(0, 100), 99);
        Due.answer("behind(0) of 99", x.behind(0), 0);
        LampRhythms y = behind(101);
        Due.answer("100 of 101", y.correct(0, 100), 100);
        Due.answer("behind(0) of 101", y.behind(0), 1);
        Due.answer("shown(0, 0), the last one left", y.shown(0, 0), 0);
        Due.answer("100 of 1", y.correct(0, 100), 1);
        Due.answer("shown(0, 0)", y.shown(0, 0), 1);
    }

    private static void correctOneChartAlone() {
        LampRhythms x = harbour();
        for (int i = 0; i < 10; i++) {
            x.print();
        }
        x.lamp(0, 0, 1, 1, 1);
        Due.answer("the last chart", x.correct(9, 1), 1);
        Due.answer("the first chart, behind", x.behind(0), 1);
        Due.answer("the one before the last, behind", x.behind(8), 1);
        Due.answer("the last chart, behind", x.behind(9), 0);
        Due.answer("the first chart shows", x.shown(0, 0), NONE);
        Due.answer("the last chart shows", x.shown(9, 0), 1);
        Due.noSuch("correct(10, 1)", () -> x.correct(10, 1));
        Due.noSuch("correct(-1, 1)", () -> x.correct(-1, 1));
        Due.noSuch("correct(10, 0)", () -> x.correct(10, 0));
        Due.noSuch("correct(-1, 101)", () -> x.correct(-1, 101));
    }

    // ---- promise 18

    private static void behindOfFirstAndLast() {
        LampRhythms x = harbour();
        x.lamp(0, 0, 0, 1, 1);
        for (int i = 0; i < 10; i++) {
            x.print();
            x.change(0, 0, i);
        }
        for (int i = 0; i < 10; i++) {
            Due.answer("behind(" + i + ")", x.behind(i), 10 - i);
        }
        Due.noSuch("behind(10)", () -> x.behind(10));
        Due.noSuch("behind(-1)", () -> x.behind(-1));
    }

    // ---- promise 19

    private static void shownOfFirstAndLast() {
        LampRhythms x = new LampRhythms();
        for (int i = 0; i < 20; i++) {
            Due.pattern(x, 1 + i % 9, 1 + i / 9);
        }
        for (int i = 0; i < 12; i++) {
            x.lamp(i, i, i == 11 ? 19 : i, 1, 1);
        }
        for (int i = 0; i < 10; i++) {
            x.print();
        }
        Due.answer("shown(0, 0)", x.shown(0, 0), 0);
        Due.answer("shown(9, 0)", x.shown(9, 0), 0);
        Due.answer("shown(0, 11)", x.shown(0, 11), 19);
        Due.answer("shown(9, 11)", x.shown(9, 11), 19);
        Due.noSuch("shown(9, 12)", () -> x.shown(9, 12));
        Due.noSuch("shown(9, -1)", () -> x.shown(9, -1));
        Due.noSuch("shown(10, 11)", () -> x.shown(10, 11));
        Due.noSuch("shown(-1, 11)", () -> x.shown(-1, 11));
        Due.noSuch("shown(10, 12)", () -> x.shown(10, 12));
    }

    private static void shownBeforeAndBehindTheNotice() {
        LampRhythms x = harbour();
        x.print();
        Due.noSuch("shown(0, 0), no lamp", () -> x.shown(0, 0));
        x.lamp(0, 0, 0, 1, 1);
        x.lamp(0, 0, 1, 1, 1);
        Due.answer("shown(0, 0), none put in", x.shown(0, 0), NONE);
        x.correct(0, 1);
        Due.answer("shown(0, 0), one put in", x.shown(0, 0), 0);
        Due.answer("shown(0, 1), one put in", x.shown(0, 1), NONE);
        x.correct(0, 1);
        Due.answer("shown(0, 1), two put in", x.shown(0, 1), 1);
    }

    private static void shownOfAFailedLamp() {
        LampRhythms x = harbour();
        x.lamp(0, 0, 1, 1, 1);
        x.print();
        x.fail(0, true);
        Due.answer("failed, the notice not put in", x.shown(0, 0), 1);
        x.correct(0, 1);
        Due.answer("failed, the notice put in", x.shown(0, 0), NONE);
        x.change(0, 0, 0);
        x.correct(0, 1);
        Due.answer("changed while it has failed", x.shown(0, 0), NONE);
        x.fail(0, false);
        Due.answer("mended, the notice not put in", x.shown(0, 0), NONE);
        x.correct(0, 1);
        Due.answer("mended, the notice put in", x.shown(0, 0), 0);
    }

    /** A notice tells the lamp as it was when it was made, not as it is when it is put in. */
    private static void shownAsTheNoticeTells() {
        LampRhythms x = harbour();
        x.print();
        x.lamp(0, 0, 0, 1, 1);
        x.change(0, 1, 0);
        x.fail(0, true);
        x.change(0, 0, 0);
        x.fail(0, false);
        int[] due = {0, 1, NONE, NONE, 0};
        for (int i = 0; i < due.length; i++) {
            x.correct(0, 1);
            Due.answer("shown(0, 0) with the notice " + i, x.shown(0, 0), due[i]);
        }
    }
}
