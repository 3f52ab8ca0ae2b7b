import java.util.Arrays;

/** The boundary cases of promises 1 to 6, a method for each; the calls that are refused have RefusedTest. */
final class PatternEdgesTest {
    public static void main(String[] args) {
        firstOfEachIsZero();
        questionsOfWhatIsEmpty();
        leastSeconds();
        greatestSeconds();
        draftFillsToSix();
        refusedPhaseLeavesTheFullDraft();
        draftIsEmptyAfterAPattern();
        refusedPatternLeavesTheDraft();
        draftOfTwoFourAndSix();
        lastPattern();
        refusedPatternOfAFullHarbour();
        lightFirstAndDarkLast();
        leastAndGreatestPeriod();
        periodOfFirstAndLast();
        alikeWithItself();
        alikeNoSecondsLater();
        alikeFewAndManySecondsLater();
        alikeWithARepeatedOne();
        notAlikeInTheLastSecondAlone();
        notAlikeWithLightAndDarkChanged();
        alikeWithLightAndDarkChanged();
        alikeOfFirstAndLast();
        Due.end();
    }

    // ---- promise 1

    private static void firstOfEachIsZero() {
        LampRhythms x = new LampRhythms();
        Due.answer("the first chart, of nothing", x.print(), 0);
        Due.answer("the first pattern", Due.pattern(x, 1, 1), 0);
        Due.answer("the first lamp", x.lamp(0, 0, 0, 1, 1), 0);
        Due.answer("the first notice is the lamp's, so this is", x.change(0, 0, 0), 1);
    }

    private static void questionsOfWhatIsEmpty() {
        LampRhythms x = new LampRhythms();
        Due.answer("clashes() of nothing", x.clashes(), 0);
        Due.answer("notices() of nothing", x.notices(), 0);
        Due.badState("pattern() of nothing", () -> x.pattern());
        Due.noSuch("period(0) of nothing", () -> x.period(0));
        Due.noSuch("period(-1) of nothing", () -> x.period(-1));
        Due.answer("phase(9), the draft was empty", x.phase(9), 1);
    }

    // ---- promise 2

    private static void leastSeconds() {
        LampRhythms x = new LampRhythms();
        Due.badArgument("phase(0)", () -> x.phase(0));
        Due.answer("phase(1)", x.phase(1), 1);
        Due.badArgument("phase(0)", () -> x.phase(0));
        Due.answer("phase(1)", x.phase(1), 2);
        Due.answer("pattern()", x.pattern(), 0);
        Due.answer("period of 1 and 1", x.period(0), 2);
    }

    private static void greatestSeconds() {
        LampRhythms x = new LampRhythms();
        Due.badArgument("phase(10)", () -> x.phase(10));
        Due.answer("phase(9)", x.phase(9), 1);
        Due.badArgument("phase(10)", () -> x.phase(10));
        Due.answer("phase(9)", x.phase(9), 2);
        Due.answer("pattern()", x.pattern(), 0);
        Due.answer("period of 9 and 9", x.period(0), 18);
    }

    private static void draftFillsToSix() {
        LampRhythms x = new LampRhythms();
        for (int phases = 1; phases <= 6; phases++) {
            Due.answer("phase, with it " + phases, x.phase(1 + phases % 9), phases);
        }
        Due.badState("phase(1), the 7th", () -> x.phase(1));
        Due.badState("phase(9), the 7th", () -> x.phase(9));
        Due.badArgument("phase(0), the 7th", () -> x.phase(0));
        Due.badArgument("phase(10), the 7th", () -> x.phase(10));
    }

    private static void refusedPhaseLeavesTheFullDraft() {
        LampRhythms x = new LampRhythms();
        draft(x, 1, 2, 3, 4, 5, 6);
        Due.badState("phase(9), the 7th", () -> x.phase(9));
        Due.badArgument("phase(10), the 7th", () -> x.phase(10));
        Due.answer("pattern() of the six", x.pattern(), 0);
        Due.answer("period of the six", x.period(0), 21);
        x.lamp(0, 0, 0, 1, 1);
        Due.answer("the six", rhythm(x, 21), "LddLLLddddLLLLLdddddd");
    }

    // ---- promise 3

    private static void draftIsEmptyAfterAPattern() {
        for (int phases = 2; phases <= 6; phases += 2) {
            LampRhythms x = new LampRhythms();
            for (int i = 0; i < phases; i++) {
                x.phase(9);
            }
            Due.answer("pattern() of " + phases, x.pattern(), 0);
            Due.badState("pattern(), the draft empty behind " + phases, () -> x.pattern());
            Due.answer("phase(1), the first again", x.phase(1), 1);
            Due.answer("phase(1), the second again", x.phase(1), 2);
            Due.answer("pattern(), the next", x.pattern(), 1);
            Due.answer("period(1), of the new phases alone", x.period(1), 2);
            Due.answer("period(0), as it was", x.period(0), 9 * phases);
        }
    }

    private static void refusedPatternLeavesTheDraft() {
        for (int phases = 1; phases <= 5; phases += 2) {
            LampRhythms x = new LampRhythms();
            for (int i = 0; i < phases; i++) {
                x.phase(2);
            }
            Due.badState("pattern() of " + phases, () -> x.pattern());
            Due.badState("pattern() of " + phases + ", again", () -> x.pattern());
            Due.noSuch("period(0)", () -> x.period(0));
            Due.answer("one more phase", x.phase(3), phases + 1);
            Due.answer("pattern() of " + (phases + 1), x.pattern(), 0);
            Due.answer("period(0)", x.period(0), 2 * phases + 3);
        }
        LampRhythms x = new LampRhythms();
        Due.badState("pattern() of 0", () -> x.pattern());
        Due.answer("the first phase", x.phase(3), 1);
    }

    private static void draftOfTwoFourAndSix() {
        LampRhythms x = new LampRhythms();
        Due.answer("pattern() of 2", Due.pattern(x, 1, 2), 0);
        Due.answer("pattern() of 4", Due.pattern(x, 1, 2, 3, 4), 1);
        Due.answer("pattern() of 6", Due.pattern(x, 1, 2, 3, 4, 5, 6), 2);
        Due.answer("period of 2", x.period(0), 3);
        Due.answer("period of 4", x.period(1), 10);
        Due.answer("period of 6", x.period(2), 21);
    }

    private static void lastPattern() {
        LampRhythms x = patterns(19);
        Due.noSuch("period(19), of 19", () -> x.period(19));
        Due.answer("the 20th", Due.pattern(x, 9, 8), 19);
        Due.answer("period(19)", x.period(19), 17);
        draft(x, 1, 1);
        Due.badState("the 21st", () -> x.pattern());
        Due.noSuch("period(20)", () -> x.period(20));
        Due.answer("period(19), as it was", x.period(19), 17);
    }

    private static void refusedPatternOfAFullHarbour() {
        LampRhythms x = patterns(20);
        Due.badState("pattern() of 0, with 20", () -> x.pattern());
        Due.answer("phase", x.phase(5), 1);
        Due.badState("pattern() of 1, with 20", () -> x.pattern());
        Due.answer("phase", x.phase(5), 2);
        Due.badState("pattern() of 2, with 20", () -> x.pattern());
        Due.answer("phase, the draft as it was", x.phase(5), 3);
        draft(x, 5, 5, 5);
        Due.badState("pattern() of 6, with 20", () -> x.pattern());
        Due.badState("the 7th phase", () -> x.phase(5));
    }

    private static void lightFirstAndDarkLast() {
        int[][] all = {{1, 1}, {9, 9}, {1, 9}, {9, 1}, {1, 1, 1, 1}, {9, 1, 1, 9}, {1, 1, 1, 1, 1, 1},
            {9, 9, 9, 9, 9, 9}, {2, 1, 3, 1, 4, 1}};
        for (int[] phases : all) {
            LampRhythms x = new LampRhythms();
            Due.pattern(x, phases);
            x.lamp(0, 0, 0, 1, 1);
            StringBuilder due = new StringBuilder();
            for (int i = 0; i < phases.length; i++) {
                due.append((i % 2 == 0 ? "L" : "d").repeat(phases[i]));
            }
            Due.answer("seconds of " + Arrays.toString(phases), rhythm(x, x.period(0)), due.toString());
        }
    }

    // ---- promise 4

    private static void leastAndGreatestPeriod() {
        LampRhythms x = new LampRhythms();
        Due.pattern(x, 1, 1);
        Due.pattern(x, 9, 9, 9, 9, 9, 9);
        Due.answer("the least period", x.period(0), 2);
        Due.answer("the greatest period", x.period(1), 54);
    }

    private static void periodOfFirstAndLast() {
        LampRhythms x = patterns(20);
        Due.answer("period(0), of 20", x.period(0), 2);
        Due.answer("period(19), of 20", x.period(19), 5);
        Due.noSuch("period(20), of 20", () -> x.period(20));
        Due.noSuch("period(-1), of 20", () -> x.period(-1));
    }

    // ---- promises 5 and 6

    private static void alikeWithItself() {
        for (int[] phases : new int[][] {{1, 1}, {9, 9}, {9, 9, 9, 9, 9, 9}, {1, 2, 3, 4, 5, 6}, {3, 1, 3, 1}}) {
            LampRhythms x = new LampRhythms();
            Due.pattern(x, phases);
            Due.answer("areAlike(0, 0) of " + Arrays.toString(phases), x.areAlike(0, 0), true);
            Due.answer("areAlikeBySeconds(0, 0) of " + Arrays.toString(phases), x.areAlikeBySeconds(0, 0), true);
        }
    }

    private static void alikeNoSecondsLater() {
        alike(true, new int[] {1, 1}, new int[] {1, 1});
        alike(true, new int[] {9, 9, 9, 9, 9, 8}, new int[] {9, 9, 9, 9, 9, 8});
    }

    /** The one turned begins with the last light phase of the other, or with its second one. */
    private static void alikeFewAndManySecondsLater() {
        alike(true, new int[] {1, 1, 9, 9, 9, 9}, new int[] {9, 9, 9, 9, 1, 1});
        alike(true, new int[] {1, 1, 9, 9, 9, 9}, new int[] {9, 9, 1, 1, 9, 9});
        alike(true, new int[] {1, 2, 2, 1}, new int[] {2, 1, 1, 2});
        alike(true, new int[] {9, 1, 8, 1}, new int[] {8, 1, 9, 1});
    }

    private static void alikeWithARepeatedOne() {
        alike(true, new int[] {1, 1}, new int[] {1, 1, 1, 1});
        alike(true, new int[] {1, 1}, new int[] {1, 1, 1, 1, 1, 1});
        alike(true, new int[] {9, 9, 9, 9}, new int[] {9, 9, 9, 9, 9, 9});
        alike(true, new int[] {1, 2, 1, 2}, new int[] {1, 2, 1, 2, 1, 2});
        alike(true, new int[] {9, 8}, new int[] {9, 8, 9, 8});
        alike(false, new int[] {1, 1, 1, 2}, new int[] {1, 1, 1, 2, 1, 1});
        alike(false, new int[] {1, 1}, new int[] {1, 1, 1, 2});
        alike(false, new int[] {1, 1}, new int[] {1, 1, 1, 1, 2, 1});
        alike(false, new int[] {1, 1}, new int[] {3, 3});
    }

    private static void notAlikeInTheLastSecondAlone() {
        alike(false, new int[] {9, 9, 9, 9, 9, 9}, new int[] {9, 9, 9, 9, 9, 8});
        alike(false, new int[] {9, 9, 9, 9, 9, 9}, new int[] {8, 9, 9, 9, 9, 9});
        alike(false, new int[] {9, 9, 9, 9, 9, 9}, new int[] {9, 9, 9, 9, 8, 9});
        alike(false, new int[] {1, 1}, new int[] {1, 2});
        alike(false, new int[] {1, 1}, new int[] {2, 1});
        alike(false, new int[] {9, 9}, new int[] {9, 8});
    }

    private static void notAlikeWithLightAndDarkChanged() {
        alike(false, new int[] {1, 9}, new int[] {9, 1});
        alike(false, new int[] {1, 2, 1, 2}, new int[] {2, 1, 2, 1});
        alike(false, new int[] {1, 2, 3, 4, 5, 6}, new int[] {2, 3, 4, 5, 6, 1});
    }

    /** Three phases that come twice are light first and then dark: half a period later each is the other. */
    private static void alikeWithLightAndDarkChanged() {
        alike(true, new int[] {1, 2, 2, 1, 2, 2}, new int[] {2, 2, 1, 2, 2, 1});
        alike(true, new int[] {1, 2, 3, 1, 2, 3}, new int[] {2, 3, 1, 2, 3, 1});
        alike(false, new int[] {1, 2, 3, 1, 2, 3}, new int[] {3, 2, 1, 3, 2, 1});
        alike(false, new int[] {1, 2, 2, 1, 2, 2}, new int[] {1, 2, 2, 1});
    }

    private static void alikeOfFirstAndLast() {
        LampRhythms x = patterns(19);
        Due.noSuch("areAlike(0, 19), of 19", () -> x.areAlike(0, 19));
        Due.noSuch("areAlikeBySeconds(19, 0), of 19", () -> x.areAlikeBySeconds(19, 0));
        Due.pattern(x, 1, 1, 1, 1);
        Due.answer("areAlike(0, 19)", x.areAlike(0, 19), true);
        Due.answer("areAlike(19, 0)", x.areAlike(19, 0), true);
        Due.answer("areAlike(19, 18)", x.areAlike(19, 18), false);
        Due.answer("areAlikeBySeconds(0, 19)", x.areAlikeBySeconds(0, 19), true);
        Due.answer("areAlikeBySeconds(19, 0)", x.areAlikeBySeconds(19, 0), true);
        Due.answer("areAlikeBySeconds(19, 18)", x.areAlikeBySeconds(19, 18), false);
        for (int bad : new int[] {-1, 20}) {
            Due.noSuch("areAlike(19, " + bad + ")", () -> x.areAlike(19, bad));
            Due.noSuch("areAlike(" + bad + ", 19)", () -> x.areAlike(bad, 19));
            Due.noSuch("areAlike of " + bad + " with itself", () -> x.areAlike(bad, bad));
            Due.noSuch("areAlikeBySeconds(19, " + bad + ")", () -> x.areAlikeBySeconds(19, bad));
            Due.noSuch("areAlikeBySeconds(" + bad + ", 19)", () -> x.areAlikeBySeconds(bad, 19));
            Due.noSuch("areAlikeBySeconds of " + bad + " with itself", () -> x.areAlikeBySeconds(bad, bad));
        }
    }

    // ---- what the cases share

    private static void draft(LampRhythms x, int... phases) {
        for (int seconds : phases) {
            x.phase(seconds);
        }
    }

    private static LampRhythms patterns(int many) {
        LampRhythms x = new LampRhythms();
        for (int i = 0; i < many; i++) {
            Due.pattern(x, 1 + i % 9, 1 + i / 9);
        }
        return x;
    }

    private static void alike(boolean due, int[] phases, int[] others) {
        LampRhythms x = new LampRhythms();
        Due.pattern(x, phases);
        Due.pattern(x, others);
        String told = Arrays.toString(phases) + ", " + Arrays.toString(others);
        Due.answer("areAlike " + told, x.areAlike(0, 1), due);
        Due.answer("areAlike turned " + told, x.areAlike(1, 0), due);
        Due.answer("areAlikeBySeconds " + told, x.areAlikeBySeconds(0, 1), due);
        Due.answer("areAlikeBySeconds turned " + told, x.areAlikeBySeconds(1, 0), due);
    }

    private static String rhythm(LampRhythms x, int seconds) {
        StringBuilder seen = new StringBuilder();
        for (int second = 0; second < seconds; second++) {
            seen.append(x.shines(0, second) ? 'L' : 'd');
        }
        return seen.toString();
    }
}
