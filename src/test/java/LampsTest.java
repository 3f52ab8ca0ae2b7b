/** Promises 7 to 14: lamp, change, fail, shines, sector, isSeen, common, clashes. */
final class LampsTest {
    private static final int[] FAR_OFF = {Integer.MIN_VALUE, Integer.MAX_VALUE};

    public static void main(String[] args) {
        lamp();
        lampEdges();
        lampWrong();
        mostLamps();
        change();
        changeWrong();
        fail();
        shines();
        shinesWrong();
        sector();
        sectorWrong();
        isSeen();
        isSeenWrong();
        common();
        clashes();
        Due.end();
    }

    private static LampRhythms harbour() {
        LampRhythms x = new LampRhythms();
        Due.pattern(x, 1, 2);
        Due.pattern(x, 3, 1);
        return x;
    }

    private static void lamp() {
        LampRhythms x = harbour();
        Due.answer("lamp", x.lamp(4, 5, 1, 6, 255), 0);
        Due.answer("lamp", x.lamp(5, 4, 0, 6, 255), 1);
        Due.answer("notices()", x.notices(), 2);
        Due.answer("shines(0, 0), a beginning of 0", x.shines(0, 0), true);
        Due.answer("shines(0, 2)", x.shines(0, 2), true);
        Due.answer("shines(0, 3)", x.shines(0, 3), false);
        Due.answer("sector of its own place", x.sector(0, 4, 5), -1);
        Due.answer("sector of another place", x.sector(1, 4, 5), 3);
    }

    private static void lampEdges() {
        LampRhythms x = harbour();
        Due.answer("lamp(0, 0, 0, 1, 1)", x.lamp(0, 0, 0, 1, 1), 0);
        Due.answer("lamp(31, 31, 1, 40, 255)", x.lamp(31, 31, 1, 40, 255), 1);
        Due.answer("lamp(0, 31, 1, 40, 128)", x.lamp(0, 31, 1, 40, 128), 2);
    }

    private static void lampWrong() {
        LampRhythms x = harbour();
        for (int bad : new int[] {-1, 2, 20, FAR_OFF[0], FAR_OFF[1]}) {
            Due.noSuch("lamp with pattern " + bad, () -> x.lamp(0, 0, bad, 1, 1));
            Due.noSuch("lamp with pattern " + bad + " and x", () -> x.lamp(-1, 0, bad, 1, 1));
        }
        for (int bad : new int[] {-1, 32, FAR_OFF[0], FAR_OFF[1]}) {
            Due.badArgument("lamp with x " + bad, () -> x.lamp(bad, 0, 0, 1, 1));
            Due.badArgument("lamp with y " + bad, () -> x.lamp(0, bad, 0, 1, 1));
        }
        for (int bad : new int[] {-1, 0, 41, FAR_OFF[0], FAR_OFF[1]}) {
            Due.badArgument("lamp with reach " + bad, () -> x.lamp(0, 0, 0, bad, 1));
        }
        for (int bad : new int[] {-1, 0, 256, FAR_OFF[0], FAR_OFF[1]}) {
            Due.badArgument("lamp with sectors " + bad, () -> x.lamp(0, 0, 0, 1, bad));
        }
        Due.answer("notices() after throws", x.notices(), 0);
        Due.noSuch("shines(0, 0) after throws", () -> x.shines(0, 0));
    }

    private static void mostLamps() {
        LampRhythms x = harbour();
        for (int i = 0; i < 12; i++) {
            Due.answer("lamp " + i, x.lamp(i, i, 0, 1, 1), i);
        }
        Due.badState("the 13th lamp", () -> x.lamp(0, 0, 0, 1, 1));
        Due.badArgument("the 13th lamp, x out of range", () -> x.lamp(32, 0, 0, 1, 1));
        Due.badArgument("the 13th lamp, sectors out of range", () -> x.lamp(0, 0, 0, 1, 0));
        Due.noSuch("the 13th lamp, no such pattern", () -> x.lamp(0, 0, 2, 1, 1));
        Due.answer("notices()", x.notices(), 12);
        Due.answer("sector(11, 11, 11)", x.sector(11, 11, 11), -1);
        Due.noSuch("sector(12, 11, 11)", () -> x.sector(12, 11, 11));
    }

    private static void change() {
        LampRhythms x = harbour();
        x.lamp(0, 0, 0, 1, 1);
        x.lamp(1, 1, 0, 1, 1);
        Due.answer("change(0, 1, 3)", x.change(0, 1, 3), 2);
        Due.answer("shines(0, 0)", x.shines(0, 0), false);
        Due.answer("shines(0, 1)", x.shines(0, 1), true);
        Due.answer("shines(1, 1), the other lamp", x.shines(1, 1), false);
        Due.answer("change(0, 1, 3), the same", x.change(0, 1, 3), 3);
        Due.answer("notices()", x.notices(), 4);
        Due.answer("change(0, 0, 59)", x.change(0, 0, 59), 4);
        Due.answer("shines(0, 0), second 59 of 3", x.shines(0, 0), false);
        Due.answer("shines(0, 1), second 60 of 3", x.shines(0, 1), true);
        Due.answer("change(0, 0, 0)", x.change(0, 0, 0), 5);
        x.fail(0, true);
        Due.answer("change of a failed lamp", x.change(0, 1, 0), 7);
        Due.answer("shines(0, 0), still failed", x.shines(0, 0), false);
        Due.answer("mended", x.fail(0, false), 8);
        Due.answer("shines(0, 2), by the new pattern", x.shines(0, 2), true);
    }

    private static void changeWrong() {
        LampRhythms x = harbour();
        x.lamp(0, 0, 1, 1, 1);
        for (int bad : new int[] {-1, 1, 12, FAR_OFF[0], FAR_OFF[1]}) {
            Due.noSuch("change of lamp " + bad, () -> x.change(bad, 0, 0));
            Due.noSuch("change of lamp " + bad + " and begins", () -> x.change(bad, 0, 60));
        }
        for (int bad : new int[] {-1, 2, 20, FAR_OFF[0], FAR_OFF[1]}) {
            Due.noSuch("change to pattern " + bad, () -> x.change(0, bad, 0));
            Due.noSuch("change to pattern " + bad + " and begins", () -> x.change(0, bad, -1));
        }
        for (int bad : new int[] {-1, 60, FAR_OFF[0], FAR_OFF[1]}) {
            Due.badArgument("change to begins " + bad, () -> x.change(0, 0, bad));
        }
        Due.answer("notices() after throws", x.notices(), 1);
        Due.answer("shines(0, 2) after throws", x.shines(0, 2), true);
        Due.answer("shines(0, 3) after throws", x.shines(0, 3), false);
    }

    private static void fail() {
        LampRhythms x = harbour();
        x.lamp(0, 0, 0, 1, 1);
        x.lamp(1, 1, 0, 1, 1);
        Due.badState("mend what has not failed", () -> x.fail(0, false));
        Due.answer("fail(0, true)", x.fail(0, true), 2);
        Due.answer("shines(0, 0)", x.shines(0, 0), false);
        Due.answer("shines(1, 0), the other lamp", x.shines(1, 0), true);
        Due.badState("fail again", () -> x.fail(0, true));
        Due.answer("notices() after throws", x.notices(), 3);
        Due.answer("fail(0, false)", x.fail(0, false), 3);
        Due.answer("shines(0, 0)", x.shines(0, 0), true);
        Due.badState("mend again", () -> x.fail(0, false));
        for (int bad : new int[] {-1, 2, 12, FAR_OFF[0], FAR_OFF[1]}) {
            Due.noSuch("fail(" + bad + ", true)", () -> x.fail(bad, true));
            Due.noSuch("fail(" + bad + ", false)", () -> x.fail(bad, false));
        }
        Due.answer("notices()", x.notices(), 4);
    }

    private static void shines() {
        LampRhythms x = new LampRhythms();
        Due.pattern(x, 9, 9, 9, 9, 9, 9);
        Due.pattern(x, 1, 2, 3, 1);
        x.lamp(0, 0, 0, 1, 1);
        x.lamp(0, 0, 1, 1, 1);
        for (int second = 0; second < 120; second++) {
            Due.answer("shines(0, " + second + ")", x.shines(0, second), second / 9 % 2 == 0);
            int k = second % 7;
            Due.answer("shines(1, " + second + ")", x.shines(1, second), k == 0 || k > 2 && k < 6);
        }
        x.change(1, 1, 5);
        Due.answer("shines(1, 100000), second 3 of 7", x.shines(1, 100000), true);
        Due.answer("shines(1, 99999), second 2 of 7", x.shines(1, 99999), false);
    }

    private static void shinesWrong() {
        LampRhythms x = harbour();
        x.lamp(0, 0, 0, 1, 1);
        for (int bad : new int[] {-1, 100001, FAR_OFF[0], FAR_OFF[1]}) {
            Due.badArgument("shines(0, " + bad + ")", () -> x.shines(0, bad));
            Due.noSuch("shines(1, " + bad + ")", () -> x.shines(1, bad));
        }
        Due.noSuch("shines(-1, 0)", () -> x.shines(-1, 0));
    }

    private static void sector() {
        LampRhythms x = harbour();
        x.lamp(3, 3, 0, 1, 1);
        // A row for each y from 0, in it a sign for each x from 0; the point is the lamp.
        String[] due = {"5556667", "4556677", "4456777", "444.000", "3332100", "3322110", "3222111"};
        for (int row = 0; row < 7; row++) {
            for (int column = 0; column < 7; column++) {
                int want = column == 3 && row == 3 ? -1 : due[row].charAt(column) - '0';
                Due.answer("sector(0, " + column + ", " + row + ")", x.sector(0, column, row), want);
            }
        }
        Due.answer("sector(0, 31, 31)", x.sector(0, 31, 31), 1);
        Due.answer("sector(0, 31, 30)", x.sector(0, 31, 30), 0);
        Due.answer("sector(0, 0, 31)", x.sector(0, 0, 31), 2);
        Due.answer("sector(0, 31, 0)", x.sector(0, 31, 0), 7);
    }

    private static void sectorWrong() {
        LampRhythms x = harbour();
        x.lamp(0, 0, 0, 1, 1);
        for (int bad : new int[] {-1, 32, FAR_OFF[0], FAR_OFF[1]}) {
            Due.badArgument("sector(0, " + bad + ", 0)", () -> x.sector(0, bad, 0));
            Due.badArgument("sector(0, 0, " + bad + ")", () -> x.sector(0, 0, bad));
            Due.noSuch("sector(1, " + bad + ", 0)", () -> x.sector(1, bad, 0));
            Due.noSuch("sector(" + bad + ", 0, 0)", () -> x.sector(bad, 0, 0));
        }
    }

    private static LampRhythms fourLamps() {
        LampRhythms x = harbour();
        x.lamp(10, 10, 0, 4, 255);
        x.lamp(10, 10, 0, 4, 1 << 2 | 1 << 7);
        x.lamp(0, 31, 0, 40, 255);
        x.lamp(30, 0, 0, 3, 255);
        return x;
    }

    private static void isSeen() {
        for (int row = 0; row < 32; row++) {
            isSeenFromRow(row);
        }
        LampRhythms x = fourLamps();
        x.fail(0, true);
        Due.answer("a failed lamp, from its place", x.isSeen(0, 10, 10), true);
        Due.answer("a failed lamp, from its reach", x.isSeen(0, 14, 6), true);
        Due.answer("a failed lamp, from beyond", x.isSeen(0, 15, 6), false);
        eachSectorBit();
    }

    /** A harbour for each row: no object has more than its 512 calls. */
    private static void isSeenFromRow(int row) {
        LampRhythms x = fourLamps();
        for (int column = 0; column < 32; column++) {
            boolean near = column >= 6 && column <= 14 && row >= 6 && row <= 14;
            int sector = x.sector(1, column, row);
            String place = "(" + column + ", " + row + ")";
            Due.answer("lamp 0 from " + place, x.isSeen(0, column, row), near);
            Due.answer("lamp 1 from " + place, x.isSeen(1, column, row),
                    near && (sector == 2 || sector == 7 || sector == -1));
            Due.answer("lamp 2 from " + place, x.isSeen(2, column, row), true);
            Due.answer("lamp 3 from " + place, x.isSeen(3, column, row), column >= 27 && row <= 3);
        }
    }

    private static void eachSectorBit() {
        LampRhythms x = harbour();
        int[][] places = {{6, 5}, {6, 6}, {5, 6}, {4, 6}, {4, 5}, {4, 4}, {5, 4}, {6, 4}};
        for (int set = 0; set < 8; set++) {
            x.lamp(5, 5, 0, 1, 1 << set);
            for (int k = 0; k < 8; k++) {
                boolean seen = x.isSeen(set, places[k][0], places[k][1]);
                Due.answer("sector " + set + " alone, from " + k, seen, set == k);
            }
        }
    }

    private static void isSeenWrong() {
        LampRhythms x = harbour();
        x.lamp(0, 0, 0, 1, 1);
        for (int bad : new int[] {-1, 32, FAR_OFF[0], FAR_OFF[1]}) {
            Due.badArgument("isSeen(0, " + bad + ", 0)", () -> x.isSeen(0, bad, 0));
            Due.badArgument("isSeen(0, 0, " + bad + ")", () -> x.isSeen(0, 0, bad));
            Due.noSuch("isSeen(1, " + bad + ", 0)", () -> x.isSeen(1, bad, 0));
            Due.noSuch("isSeen(" + bad + ", 0, 0)", () -> x.isSeen(bad, 0, 0));
        }
    }

    private static void common() {
        LampRhythms x = harbour();
        x.lamp(0, 0, 0, 40, 255);
        x.lamp(31, 31, 1, 31, 255);
        x.lamp(10, 10, 0, 2, 255);
        x.lamp(14, 10, 1, 2, 255);
        x.lamp(15, 10, 1, 2, 255);
        x.lamp(10, 10, 1, 2, 1);
        Due.answer("common, all places", x.common(0, 1), 1024);
        Due.answer("common, all with a few", x.common(0, 2), 25);
        Due.answer("common, a column", x.common(2, 3), 5);
        Due.answer("common, turned", x.common(3, 2), 5);
        Due.answer("common, none", x.common(2, 4), 0);
        Due.answer("common, overlapping", x.common(3, 4), 20);
        Due.answer("common with itself", x.common(2, 2), 25);
        Due.answer("common with itself, a sector", x.common(5, 5), 4);
        Due.answer("common, a sector of the other", x.common(2, 5), 4);
        x.fail(2, true);
        Due.answer("common of a failed one", x.common(2, 3), 5);
        for (int bad : new int[] {-1, 6, 12, FAR_OFF[0], FAR_OFF[1]}) {
            Due.noSuch("common(0, " + bad + ")", () -> x.common(0, bad));
            Due.noSuch("common(" + bad + ", 0)", () -> x.common(bad, 0));
        }
    }

    private static void clashes() {
        LampRhythms x = harbour();
        Due.pattern(x, 1, 2, 1, 2);
        Due.answer("clashes() without lamps", x.clashes(), 0);
        x.lamp(10, 10, 0, 2, 255);
        Due.answer("clashes() of one", x.clashes(), 0);
        x.lamp(14, 10, 2, 2, 255);
        Due.answer("clashes() of two alike", x.clashes(), 1);
        x.lamp(12, 10, 1, 2, 255);
        Due.answer("clashes() with one not alike", x.clashes(), 1);
        x.lamp(15, 10, 0, 2, 255);
        Due.answer("clashes() with one out of sight of the first", x.clashes(), 2);
        x.fail(1, true);
        Due.answer("clashes() with a failed one", x.clashes(), 2);
        x.change(2, 2, 7);
        Due.answer("clashes() with all alike", x.clashes(), 5);
        x.change(1, 1, 0);
        Due.answer("clashes() with one changed", x.clashes(), 2);
        for (int i = 4; i < 12; i++) {
            x.lamp(0, 0, 1, 40, 255);
        }
        Due.answer("clashes() of twelve", x.clashes(), 2 + 36);
        clashOfOnePlace();
    }

    private static void clashOfOnePlace() {
        LampRhythms x = harbour();
        x.lamp(10, 10, 0, 1, 255);
        x.lamp(12, 12, 0, 1, 255);
        Due.answer("common, one place", x.common(0, 1), 1);
        Due.answer("clashes() by one place", x.clashes(), 1);
    }
}
