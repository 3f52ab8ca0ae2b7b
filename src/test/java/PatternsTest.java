/** Promises 2 to 6: phase, pattern, period, areAlike, areAlikeBySeconds. */
final class PatternsTest {
    public static void main(String[] args) {
        phase();
        pattern();
        draftStaysAfterThrows();
        mostPatterns();
        period();
        alike();
        noSuchPattern();
        bothWaysAgree();
        Due.end();
    }

    private static void phase() {
        LampRhythms x = new LampRhythms();
        for (int bad : new int[] {0, 10, -1, Integer.MIN_VALUE, Integer.MAX_VALUE}) {
            Due.badArgument("phase(" + bad + ")", () -> x.phase(bad));
        }
        int[] seconds = {1, 9, 5, 1, 9, 2};
        for (int i = 0; i < seconds.length; i++) {
            Due.answer("phase " + i, x.phase(seconds[i]), i + 1);
        }
        Due.badState("the 7th phase", () -> x.phase(1));
        Due.badArgument("the 7th phase, out of range", () -> x.phase(0));
        Due.badArgument("the 7th phase, out of range", () -> x.phase(10));
        Due.answer("pattern()", x.pattern(), 0);
        Due.answer("period(0)", x.period(0), 27);
        Due.answer("phase(1), the draft empty again", x.phase(1), 1);
    }

    private static void pattern() {
        LampRhythms x = new LampRhythms();
        Due.badState("pattern() of 0", () -> x.pattern());
        for (int phases = 1; phases <= 6; phases++) {
            LampRhythms y = new LampRhythms();
            for (int i = 0; i < phases; i++) {
                y.phase(3);
            }
            if (phases % 2 == 0) {
                Due.answer("pattern() of " + phases, y.pattern(), 0);
                Due.badState("pattern(), the draft empty again", () -> y.pattern());
            } else {
                Due.badState("pattern() of " + phases, () -> y.pattern());
                Due.noSuch("period(0) after a throw", () -> y.period(0));
            }
        }
    }

    private static void draftStaysAfterThrows() {
        LampRhythms x = new LampRhythms();
        x.phase(2);
        Due.badState("pattern() of 1", () -> x.pattern());
        Due.badArgument("phase(0)", () -> x.phase(0));
        Due.answer("phase(3), the draft as it was", x.phase(3), 2);
        Due.answer("pattern()", x.pattern(), 0);
        Due.answer("period(0)", x.period(0), 5);
    }

    private static void mostPatterns() {
        LampRhythms x = new LampRhythms();
        for (int i = 0; i < 20; i++) {
            Due.answer("pattern " + i, Due.pattern(x, 1 + i % 9, 1 + i / 9), i);
        }
        Due.answer("phase(1) with 20 patterns", x.phase(1), 1);
        Due.answer("phase(2) with 20 patterns", x.phase(2), 2);
        Due.badState("the 21st pattern", () -> x.pattern());
        Due.answer("phase(3), the draft as it was", x.phase(3), 3);
        Due.answer("period(19)", x.period(19), 5);
        Due.noSuch("period(20)", () -> x.period(20));
    }

    private static void period() {
        LampRhythms x = new LampRhythms();
        Due.pattern(x, 1, 1);
        Due.pattern(x, 9, 9, 9, 9, 9, 9);
        Due.pattern(x, 1, 2, 3, 4);
        Due.answer("period(0)", x.period(0), 2);
        Due.answer("period(1)", x.period(1), 54);
        Due.answer("period(2)", x.period(2), 10);
        for (int bad : new int[] {-1, 3, 20, Integer.MIN_VALUE, Integer.MAX_VALUE}) {
            Due.noSuch("period(" + bad + ")", () -> x.period(bad));
        }
    }

    private static void alike() {
        alike(true, new int[] {2, 3}, new int[] {2, 3});
        alike(true, new int[] {2, 3}, new int[] {2, 3, 2, 3});
        alike(true, new int[] {2, 3}, new int[] {2, 3, 2, 3, 2, 3});
        alike(true, new int[] {2, 3, 2, 3}, new int[] {2, 3, 2, 3, 2, 3});
        alike(false, new int[] {2, 3}, new int[] {3, 2});
        alike(false, new int[] {2, 3}, new int[] {2, 4});
        alike(false, new int[] {1, 1}, new int[] {2, 2});
        alike(true, new int[] {1, 2, 3, 4}, new int[] {3, 4, 1, 2});
        alike(false, new int[] {1, 2, 3, 4}, new int[] {2, 3, 4, 1});
        alike(false, new int[] {1, 2, 3, 4}, new int[] {4, 3, 2, 1});
        alike(false, new int[] {1, 2, 3, 4}, new int[] {1, 4, 3, 2});
        alike(true, new int[] {1, 2, 3, 4, 5, 6}, new int[] {3, 4, 5, 6, 1, 2});
        alike(true, new int[] {1, 2, 3, 4, 5, 6}, new int[] {5, 6, 1, 2, 3, 4});
        alike(false, new int[] {1, 2, 3, 4, 5, 6}, new int[] {3, 4, 1, 2, 5, 6});
        alike(false, new int[] {1, 2, 3, 4, 5, 6}, new int[] {1, 2, 3, 4});
        alike(false, new int[] {1, 2, 1, 2, 1, 3}, new int[] {1, 2});
        alike(false, new int[] {1, 2, 1, 3}, new int[] {1, 2, 1, 3, 1, 2});
        alike(true, new int[] {1, 2, 1, 2, 1, 3}, new int[] {1, 3, 1, 2, 1, 2});
        alike(false, new int[] {9, 9, 9, 9, 9, 9}, new int[] {9, 9, 9, 9, 9, 8});
        alike(true, new int[] {9, 9, 9, 9, 9, 9}, new int[] {9, 9});
    }

    private static void alike(boolean due, int[] phases, int[] others) {
        LampRhythms x = new LampRhythms();
        Due.pattern(x, phases);
        Due.pattern(x, others);
        String told = java.util.Arrays.toString(phases) + ", " + java.util.Arrays.toString(others);
        Due.answer("areAlike " + told, x.areAlike(0, 1), due);
        Due.answer("areAlike turned " + told, x.areAlike(1, 0), due);
        Due.answer("areAlikeBySeconds " + told, x.areAlikeBySeconds(0, 1), due);
        Due.answer("areAlikeBySeconds turned " + told, x.areAlikeBySeconds(1, 0), due);
        Due.answer("areAlike the same " + told, x.areAlike(1, 1), true);
        Due.answer("areAlikeBySeconds the same " + told, x.areAlikeBySeconds(1, 1), true);
    }

    private static void noSuchPattern() {
        LampRhythms x = new LampRhythms();
        Due.pattern(x, 1, 1);
        Due.pattern(x, 1, 2);
        for (int bad : new int[] {-1, 2, Integer.MIN_VALUE, Integer.MAX_VALUE}) {
            Due.noSuch("areAlike(" + bad + ", 0)", () -> x.areAlike(bad, 0));
            Due.noSuch("areAlike(0, " + bad + ")", () -> x.areAlike(0, bad));
            Due.noSuch("areAlikeBySeconds(" + bad + ", 0)", () -> x.areAlikeBySeconds(bad, 0));
            Due.noSuch("areAlikeBySeconds(0, " + bad + ")", () -> x.areAlikeBySeconds(0, bad));
        }
    }

    /** All patterns of 2, 4 or 6 phases of 1 or 2 seconds, each with each. */
    private static void bothWaysAgree() {
        int[][] all = new int[4 + 16 + 64][];
        int made = 0;
        for (int phases = 2; phases <= 6; phases += 2) {
            for (int set = 0; set < 1 << phases; set++) {
                all[made] = new int[phases];
                for (int i = 0; i < phases; i++) {
                    all[made][i] = 1 + (set >> i & 1);
                }
                made++;
            }
        }
        for (int[] one : all) {
            for (int[] other : all) {
                LampRhythms x = new LampRhythms();
                Due.pattern(x, one);
                Due.pattern(x, other);
                boolean due = areAlikeByText(one, other);
                String told = java.util.Arrays.toString(one) + ", " + java.util.Arrays.toString(other);
                Due.answer("areAlike " + told, x.areAlike(0, 1), due);
                Due.answer("areAlikeBySeconds " + told, x.areAlikeBySeconds(0, 1), due);
            }
        }
    }

    private static boolean areAlikeByText(int[] one, int[] other) {
        String a = text(one);
        String b = text(other);
        String longA = a.repeat(b.length());
        return (longA + longA).contains(b.repeat(a.length()));
    }

    private static String text(int[] phases) {
        StringBuilder text = new StringBuilder();
        for (int i = 0; i < phases.length; i++) {
            text.append((i % 2 == 0 ? "L" : "d").repeat(phases[i]));
        }
        return text.toString();
    }
}
