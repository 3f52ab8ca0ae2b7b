/** The boundary cases of promises 7 to 14, a method for each; the calls that are refused have RefusedTest. */
final class LampEdgesTest {
    private static final int ALL = 255;

    public static void main(String[] args) {
        lampInEachCorner();
        lampBesideTheHarbour();
        lampOfFirstAndLastPattern();
        lampOfLeastAndGreatestReach();
        lampOfLeastAndGreatestSectors();
        lastLamp();
        lampBeginsAtZero();
        leastAndGreatestBeginning();
        changeToTheSame();
        changeOfFirstAndLast();
        changeOfAFailedLamp();
        failOfFirstAndLast();
        failAgain();
        shinesRoundThePeriod();
        shinesRoundByTheBeginning();
        shinesInFirstAndLastSecond();
        failedNeverShines();
        sectorOfItsOwnPlace();
        sectorOnEachBorder();
        sectorBesideEachBorder();
        sectorFromCornerToCorner();
        seenAtItsReach();
        seenFromItsOwnPlaceInNoSector();
        seenThoughFailed();
        commonOfNoneOneAndAll();
        commonWithItself();
        clashesOfNoneOneAndTwo();
        clashesOfTwelve();
        clashesByOnePlace();
        clashesThoughFailed();
        Due.end();
    }

    private static LampRhythms harbour() {
        LampRhythms x = new LampRhythms();
        Due.pattern(x, 1, 2);
        Due.pattern(x, 3, 1);
        return x;
    }

    private static LampRhythms fullHarbour() {
        LampRhythms x = new LampRhythms();
        for (int i = 0; i < 20; i++) {
            Due.pattern(x, 1 + i % 9, 1 + i / 9);
        }
        for (int i = 0; i < 12; i++) {
            x.lamp(i, i, i, 40, ALL);
        }
        return x;
    }

    // ---- promise 7

    private static void lampInEachCorner() {
        LampRhythms x = harbour();
        int[][] corners = {{0, 0}, {31, 0}, {0, 31}, {31, 31}};
        for (int i = 0; i < corners.length; i++) {
            int side = corners[i][0];
            int row = corners[i][1];
            Due.answer("a lamp in the corner " + i, x.lamp(side, row, 0, 1, ALL), i);
            Due.answer("it is there", x.sector(i, side, row), -1);
            Due.answer("it is seen there", x.isSeen(i, side, row), true);
            Due.answer("it is not seen amid", x.isSeen(i, 15, 15), false);
        }
    }

    private static void lampBesideTheHarbour() {
        LampRhythms x = harbour();
        Due.badArgument("x of -1", () -> x.lamp(-1, 0, 0, 1, 1));
        Due.badArgument("x of 32", () -> x.lamp(32, 0, 0, 1, 1));
        Due.badArgument("y of -1", () -> x.lamp(0, -1, 0, 1, 1));
        Due.badArgument("y of 32", () -> x.lamp(0, 32, 0, 1, 1));
        Due.answer("notices()", x.notices(), 0);
        Due.answer("the first that is allowed", x.lamp(31, 31, 0, 1, 1), 0);
    }

    private static void lampOfFirstAndLastPattern() {
        LampRhythms x = new LampRhythms();
        Due.noSuch("a lamp where no pattern is", () -> x.lamp(0, 0, 0, 1, 1));
        for (int i = 0; i < 20; i++) {
            Due.pattern(x, 1 + i % 9, 1 + i / 9);
        }
        Due.noSuch("pattern -1", () -> x.lamp(0, 0, -1, 1, 1));
        Due.noSuch("pattern 20", () -> x.lamp(0, 0, 20, 1, 1));
        Due.answer("pattern 0", x.lamp(0, 0, 0, 1, 1), 0);
        Due.answer("pattern 19", x.lamp(0, 0, 19, 1, 1), 1);
        Due.answer("second 1 of pattern 0, of 1 and 1", x.shines(0, 1), false);
        Due.answer("second 1 of pattern 19, of 2 and 3", x.shines(1, 1), true);
        Due.answer("second 2 of pattern 19", x.shines(1, 2), false);
    }

    private static void lampOfLeastAndGreatestReach() {
        LampRhythms x = harbour();
        Due.badArgument("a reach of 0", () -> x.lamp(0, 0, 0, 0, ALL));
        Due.badArgument("a reach of 41", () -> x.lamp(0, 0, 0, 41, ALL));
        Due.answer("a reach of 1", x.lamp(0, 0, 0, 1, ALL), 0);
        Due.answer("a reach of 40", x.lamp(0, 0, 0, 40, ALL), 1);
        Due.answer("the reach of 1, at 1", x.isSeen(0, 1, 1), true);
        Due.answer("the reach of 1, at 2", x.isSeen(0, 2, 0), false);
        Due.answer("the reach of 40, at 31", x.isSeen(1, 31, 31), true);
        Due.answer("places of the reach of 1", x.common(0, 0), 4);
        Due.answer("places of the reach of 40", x.common(1, 1), 1024);
    }

    private static void lampOfLeastAndGreatestSectors() {
        LampRhythms x = harbour();
        Due.badArgument("sectors of 0", () -> x.lamp(5, 5, 0, 1, 0));
        Due.badArgument("sectors of 256", () -> x.lamp(5, 5, 0, 1, 256));
        Due.answer("sectors of 1", x.lamp(5, 5, 0, 1, 1), 0);
        Due.answer("sectors of 128", x.lamp(5, 5, 0, 1, 128), 1);
        Due.answer("sectors of 255", x.lamp(5, 5, 0, 1, 255), 2);
        Due.answer("the sector 0 of 1", x.isSeen(0, 6, 5), true);
        Due.answer("the sector 7 of 1", x.isSeen(0, 6, 4), false);
        Due.answer("the sector 0 of 128", x.isSeen(1, 6, 5), false);
        Due.answer("the sector 7 of 128", x.isSeen(1, 6, 4), true);
        Due.answer("places of one sector and its own", x.common(0, 0), 2);
        Due.answer("places of all sectors and its own", x.common(2, 2), 9);
    }

    private static void lastLamp() {
        LampRhythms x = harbour();
        for (int i = 0; i < 11; i++) {
            x.lamp(i, 0, 0, 1, 1);
        }
        Due.noSuch("lamp 11, of 11", () -> x.sector(11, 0, 0));
        Due.answer("the 12th lamp", x.lamp(11, 0, 0, 1, 1), 11);
        Due.answer("the place of lamp 11", x.sector(11, 11, 0), -1);
        Due.badState("the 13th lamp", () -> x.lamp(12, 0, 0, 1, 1));
        Due.noSuch("lamp 12", () -> x.sector(12, 0, 0));
        Due.answer("notices()", x.notices(), 12);
        Due.badArgument("the 13th lamp, y of 32", () -> x.lamp(12, 32, 0, 1, 1));
        Due.badArgument("the 13th lamp, a reach of 41", () -> x.lamp(12, 0, 0, 41, 1));
        Due.noSuch("the 13th lamp, pattern 2", () -> x.lamp(12, 0, 2, 1, 1));
        Due.noSuch("the 13th lamp, pattern 2 and all else wrong", () -> x.lamp(32, -1, 2, 0, 256));
    }

    private static void lampBeginsAtZero() {
        LampRhythms x = harbour();
        x.lamp(0, 0, 0, 1, 1);
        x.change(0, 0, 59);
        x.lamp(0, 0, 0, 1, 1);
        Due.answer("the lamp behind a changed one, second 0", x.shines(1, 0), true);
        Due.answer("the lamp behind a changed one, second 1", x.shines(1, 1), false);
    }

    // ---- promise 8

    private static void leastAndGreatestBeginning() {
        LampRhythms x = new LampRhythms();
        Due.pattern(x, 9, 9, 9, 9, 9, 9);
        x.lamp(0, 0, 0, 1, 1);
        Due.answer("begins at 59", x.change(0, 0, 59), 1);
        Due.answer("second 59 of 54 is 5, 3 later it is 8", x.shines(0, 3), true);
        Due.answer("4 later it is 9", x.shines(0, 4), false);
        Due.badArgument("begins at 60", () -> x.change(0, 0, 60));
        Due.badArgument("begins at -1", () -> x.change(0, 0, -1));
        Due.answer("3 later, as before", x.shines(0, 3), true);
        Due.answer("4 later, as before", x.shines(0, 4), false);
        Due.answer("begins at 0", x.change(0, 0, 0), 2);
        Due.answer("second 8", x.shines(0, 8), true);
        Due.answer("second 9", x.shines(0, 9), false);
    }

    private static void changeToTheSame() {
        LampRhythms x = harbour();
        x.lamp(0, 0, 0, 1, 1);
        x.print();
        Due.answer("the same makes a notice", x.change(0, 0, 0), 1);
        Due.answer("and again", x.change(0, 0, 0), 2);
        Due.answer("notices()", x.notices(), 3);
        Due.answer("behind(0)", x.behind(0), 2);
    }

    private static void changeOfFirstAndLast() {
        LampRhythms x = fullHarbour();
        Due.answer("the first to the last pattern", x.change(0, 19, 0), 12);
        Due.answer("the last to the first pattern", x.change(11, 0, 0), 13);
        Due.answer("second 1 of 2 and 3", x.shines(0, 1), true);
        Due.answer("second 1 of 1 and 1", x.shines(11, 1), false);
        Due.noSuch("lamp 12", () -> x.change(12, 0, 0));
        Due.noSuch("lamp -1", () -> x.change(-1, 0, 0));
        Due.noSuch("pattern 20", () -> x.change(0, 20, 0));
        Due.noSuch("pattern -1", () -> x.change(0, -1, 0));
        Due.noSuch("pattern 20 and begins at 60", () -> x.change(0, 20, 60));
        Due.noSuch("lamp 12, pattern 20 and begins at 60", () -> x.change(12, 20, 60));
        Due.answer("notices()", x.notices(), 14);
    }

    private static void changeOfAFailedLamp() {
        LampRhythms x = harbour();
        x.lamp(0, 0, 0, 1, 1);
        x.fail(0, true);
        Due.answer("a failed lamp is changed", x.change(0, 1, 0), 2);
        Due.badState("it has failed still", () -> x.fail(0, true));
        x.fail(0, false);
        Due.answer("second 2 of the new pattern", x.shines(0, 2), true);
    }

    // ---- promise 9

    private static void failOfFirstAndLast() {
        LampRhythms x = fullHarbour();
        Due.answer("the first fails", x.fail(0, true), 12);
        Due.answer("the last fails", x.fail(11, true), 13);
        Due.answer("the first, second 0", x.shines(0, 0), false);
        Due.answer("the last, second 0", x.shines(11, 0), false);
        Due.answer("the one between, second 0", x.shines(5, 0), true);
        Due.noSuch("lamp 12 fails", () -> x.fail(12, true));
        Due.noSuch("lamp 12 is mended", () -> x.fail(12, false));
        Due.noSuch("lamp -1 fails", () -> x.fail(-1, true));
        Due.answer("the first is mended", x.fail(0, false), 14);
        Due.answer("the first, second 0", x.shines(0, 0), true);
        Due.answer("the last, second 0", x.shines(11, 0), false);
    }

    private static void failAgain() {
        LampRhythms x = harbour();
        x.lamp(0, 0, 0, 1, 1);
        Due.badState("mended, but new", () -> x.fail(0, false));
        Due.answer("fails", x.fail(0, true), 1);
        Due.badState("fails again", () -> x.fail(0, true));
        Due.answer("has failed still", x.shines(0, 0), false);
        Due.answer("mended", x.fail(0, false), 2);
        Due.badState("mended again", () -> x.fail(0, false));
        Due.answer("is mended still", x.shines(0, 0), true);
        Due.answer("notices()", x.notices(), 3);
    }

    // ---- promise 10

    private static void shinesRoundThePeriod() {
        LampRhythms x = harbour();
        x.lamp(0, 0, 0, 1, 1);
        x.lamp(0, 0, 1, 1, 1);
        Due.answer("the last second of 3", x.shines(0, 2), false);
        Due.answer("the second 3 of 3", x.shines(0, 3), true);
        Due.answer("the second 4 of 3", x.shines(0, 4), false);
        Due.answer("the second 6 of 3", x.shines(0, 6), true);
        Due.answer("the last second of 4", x.shines(1, 3), false);
        Due.answer("the second 4 of 4", x.shines(1, 4), true);
        Due.answer("the second 7 of 4", x.shines(1, 7), false);
    }

    private static void shinesRoundByTheBeginning() {
        LampRhythms x = harbour();
        x.lamp(0, 0, 0, 1, 1);
        x.change(0, 0, 2);
        Due.answer("begun at the last second, second 0", x.shines(0, 0), false);
        Due.answer("begun at the last second, second 1", x.shines(0, 1), true);
        Due.answer("begun at the last second, second 2", x.shines(0, 2), false);
        x.change(0, 0, 3);
        Due.answer("begun at the period, second 0", x.shines(0, 0), true);
        Due.answer("begun at the period, second 2", x.shines(0, 2), false);
        x.change(0, 0, 4);
        Due.answer("begun behind the period, second 0", x.shines(0, 0), false);
        Due.answer("begun behind the period, second 2", x.shines(0, 2), true);
    }

    private static void shinesInFirstAndLastSecond() {
        LampRhythms x = new LampRhythms();
        Due.pattern(x, 1, 6);
        x.lamp(0, 0, 0, 1, 1);
        Due.badArgument("second -1", () -> x.shines(0, -1));
        Due.answer("second 0", x.shines(0, 0), true);
        Due.answer("second 100000, which is 5 of 7", x.shines(0, 100000), false);
        Due.answer("second 99995, which is 0 of 7", x.shines(0, 99995), true);
        Due.badArgument("second 100001", () -> x.shines(0, 100001));
        x.change(0, 0, 2);
        Due.answer("second 100000 and 2, which is 0 of 7", x.shines(0, 100000), true);
        x.change(0, 0, 58);
        Due.answer("second 100000 and 58, which is 0 of 7", x.shines(0, 100000), true);
        x.change(0, 0, 59);
        Due.answer("second 100000 and 59, which is 1 of 7", x.shines(0, 100000), false);
    }

    private static void failedNeverShines() {
        LampRhythms x = harbour();
        x.lamp(0, 0, 1, 1, 1);
        x.fail(0, true);
        for (int second = 0; second < 5; second++) {
            Due.answer("failed, second " + second, x.shines(0, second), false);
        }
        Due.badArgument("failed, second 100001", () -> x.shines(0, 100001));
        Due.answer("failed, second 100000", x.shines(0, 100000), false);
    }

    // ---- promise 11

    private static void sectorOfItsOwnPlace() {
        LampRhythms x = harbour();
        int[][] places = {{0, 0}, {31, 31}, {0, 31}, {31, 0}, {7, 9}};
        for (int i = 0; i < places.length; i++) {
            x.lamp(places[i][0], places[i][1], 0, 1, 1);
            Due.answer("its own place " + i, x.sector(i, places[i][0], places[i][1]), -1);
        }
    }

    /** Straight along x and y, and where both are as far: each border is of the sector behind it. */
    private static void sectorOnEachBorder() {
        LampRhythms x = harbour();
        x.lamp(15, 15, 0, 1, 1);
        int[][] ways = {{1, 0}, {1, 1}, {0, 1}, {-1, 1}, {-1, 0}, {-1, -1}, {0, -1}, {1, -1}};
        for (int far : new int[] {1, 2, 15}) {
            for (int k = 0; k < ways.length; k++) {
                int got = x.sector(0, 15 + far * ways[k][0], 15 + far * ways[k][1]);
                Due.answer("the border of " + k + ", " + far + " off", got, k);
            }
        }
    }

    private static void sectorBesideEachBorder() {
        LampRhythms x = harbour();
        x.lamp(15, 15, 0, 1, 1);
        // The last place of each sector before the border of the next one, 15 off.
        int[][] last = {{15, 14}, {1, 15}, {-14, 15}, {-15, 1}, {-15, -14}, {-1, -15}, {14, -15}, {15, -1}};
        // The first place of each sector behind its border.
        int[][] first = {{15, 1}, {14, 15}, {-1, 15}, {-15, 14}, {-15, -1}, {-14, -15}, {1, -15}, {15, -14}};
        for (int k = 0; k < 8; k++) {
            Due.answer("the last of " + k, x.sector(0, 15 + last[k][0], 15 + last[k][1]), k);
            Due.answer("the first of " + k, x.sector(0, 15 + first[k][0], 15 + first[k][1]), k);
        }
    }

    private static void sectorFromCornerToCorner() {
        LampRhythms x = harbour();
        x.lamp(0, 0, 0, 1, 1);
        x.lamp(31, 0, 0, 1, 1);
        x.lamp(31, 31, 0, 1, 1);
        x.lamp(0, 31, 0, 1, 1);
        Due.answer("from 0, 0 to 31, 31", x.sector(0, 31, 31), 1);
        Due.answer("from 0, 0 to 31, 0", x.sector(0, 31, 0), 0);
        Due.answer("from 31, 0 to 0, 31", x.sector(1, 0, 31), 3);
        Due.answer("from 31, 0 to 31, 31", x.sector(1, 31, 31), 2);
        Due.answer("from 31, 31 to 0, 0", x.sector(2, 0, 0), 5);
        Due.answer("from 31, 31 to 0, 31", x.sector(2, 0, 31), 4);
        Due.answer("from 0, 31 to 31, 0", x.sector(3, 31, 0), 7);
        Due.answer("from 0, 31 to 0, 0", x.sector(3, 0, 0), 6);
        Due.badArgument("to 32, 0", () -> x.sector(0, 32, 0));
        Due.badArgument("to 0, 32", () -> x.sector(0, 0, 32));
        Due.badArgument("to -1, 0", () -> x.sector(0, -1, 0));
        Due.badArgument("to 0, -1", () -> x.sector(0, 0, -1));
        Due.noSuch("of lamp 4, to 32, 32", () -> x.sector(4, 32, 32));
    }

    // ---- promise 12

    private static void seenAtItsReach() {
        LampRhythms x = harbour();
        x.lamp(15, 15, 0, 6, ALL);
        int[][] ways = {{1, 0}, {1, 1}, {0, 1}, {-1, 1}, {-1, 0}, {-1, -1}, {0, -1}, {1, -1}};
        for (int k = 0; k < ways.length; k++) {
            int a = ways[k][0];
            int b = ways[k][1];
            Due.answer("at its reach, to " + k, x.isSeen(0, 15 + 6 * a, 15 + 6 * b), true);
            Due.answer("beyond its reach, to " + k, x.isSeen(0, 15 + 7 * a, 15 + 7 * b), false);
        }
        Due.answer("at its reach by x, beyond it by y", x.isSeen(0, 21, 22), false);
        Due.answer("at its reach by y, beyond it by x", x.isSeen(0, 8, 9), false);
        x.lamp(0, 0, 0, 31, ALL);
        x.lamp(0, 0, 0, 30, ALL);
        Due.answer("a reach of 31, at 31", x.isSeen(1, 31, 31), true);
        Due.answer("a reach of 30, at 31", x.isSeen(2, 30, 31), false);
        Due.answer("a reach of 30, at 30", x.isSeen(2, 30, 30), true);
    }

    private static void seenFromItsOwnPlaceInNoSector() {
        LampRhythms x = harbour();
        // No place of the harbour is in these sectors: they look out of it.
        x.lamp(0, 0, 0, 40, 1 << 4 | 1 << 5);
        x.lamp(31, 31, 0, 40, 1 << 0 | 1 << 1);
        Due.answer("the lamp at 0, 0 from its place", x.isSeen(0, 0, 0), true);
        Due.answer("the lamp at 0, 0 from beside", x.isSeen(0, 1, 0), false);
        Due.answer("the lamp at 31, 31 from its place", x.isSeen(1, 31, 31), true);
        Due.answer("the lamp at 31, 31 from beside", x.isSeen(1, 31, 30), false);
        Due.answer("all places of the lamp at 0, 0", x.common(0, 0), 1);
        Due.answer("all places of the lamp at 31, 31", x.common(1, 1), 1);
        Due.answer("places of both", x.common(0, 1), 0);
    }

    private static void seenThoughFailed() {
        LampRhythms x = harbour();
        x.lamp(15, 15, 0, 6, 1);
        x.fail(0, true);
        Due.answer("failed, its place", x.isSeen(0, 15, 15), true);
        Due.answer("failed, at its reach", x.isSeen(0, 21, 15), true);
        Due.answer("failed, beyond its reach", x.isSeen(0, 22, 15), false);
        Due.answer("failed, out of its sector", x.isSeen(0, 15, 21), false);
    }

    // ---- promise 13

    private static void commonOfNoneOneAndAll() {
        LampRhythms x = harbour();
        x.lamp(0, 0, 0, 40, ALL);
        x.lamp(31, 31, 1, 40, ALL);
        x.lamp(4, 4, 0, 2, ALL);
        x.lamp(8, 8, 0, 2, ALL);
        x.lamp(9, 8, 0, 2, ALL);
        Due.answer("all", x.common(0, 1), 1024);
        Due.answer("one place, at the reach of both", x.common(2, 3), 1);
        Due.answer("none, a place between", x.common(2, 4), 0);
        Due.answer("none, turned", x.common(4, 2), 0);
    }

    private static void commonWithItself() {
        LampRhythms x = fullHarbour();
        Due.answer("the first with itself", x.common(0, 0), 1024);
        Due.answer("the last with itself", x.common(11, 11), 1024);
        Due.answer("the first with the last", x.common(0, 11), 1024);
        Due.noSuch("the last with lamp 12", () -> x.common(11, 12));
        Due.noSuch("lamp 12 with itself", () -> x.common(12, 12));
        Due.noSuch("lamp -1 with itself", () -> x.common(-1, -1));
    }

    // ---- promise 14

    private static void clashesOfNoneOneAndTwo() {
        LampRhythms x = harbour();
        Due.answer("no lamp", x.clashes(), 0);
        x.lamp(3, 3, 0, 40, ALL);
        Due.answer("one lamp, not with itself", x.clashes(), 0);
        x.lamp(3, 3, 0, 40, ALL);
        Due.answer("two lamps at one place", x.clashes(), 1);
        x.change(1, 0, 59);
        Due.answer("two lamps with beginnings of their own", x.clashes(), 1);
        x.change(1, 1, 0);
        Due.answer("two lamps, not alike", x.clashes(), 0);
    }

    private static void clashesOfTwelve() {
        LampRhythms x = fullHarbour();
        for (int i = 0; i < 12; i++) {
            x.change(i, 19, i);
        }
        Due.answer("all alike", x.clashes(), 66);
        x.change(11, 0, 0);
        Due.answer("all but the last alike", x.clashes(), 55);
        x.change(0, 1, 0);
        Due.answer("all but the first and the last alike", x.clashes(), 45);
        LampRhythms y = fullHarbour();
        Due.answer("none alike", y.clashes(), 0);
    }

    private static void clashesByOnePlace() {
        LampRhythms x = harbour();
        x.lamp(4, 4, 0, 2, ALL);
        x.lamp(9, 8, 0, 2, ALL);
        Due.answer("no place", x.clashes(), 0);
        x.lamp(8, 8, 0, 2, ALL);
        Due.answer("one place with the first, many with the second", x.clashes(), 2);
        LampRhythms y = harbour();
        y.lamp(0, 0, 0, 40, 1 << 4);
        y.lamp(5, 0, 0, 5, ALL);
        y.lamp(6, 0, 0, 5, ALL);
        Due.answer("the place of the one, at the reach of another", y.clashes(), 2);
    }

    private static void clashesThoughFailed() {
        LampRhythms x = harbour();
        x.lamp(3, 3, 0, 1, ALL);
        x.lamp(3, 3, 0, 1, ALL);
        x.fail(0, true);
        Due.answer("one has failed", x.clashes(), 1);
        x.fail(1, true);
        Due.answer("both have failed", x.clashes(), 1);
    }
}
