import java.util.ArrayList;
import java.util.List;
import java.util.Random;

/**
 * Long runs of calls, right and wrong ones mixed, against a slow harbour that does what the document
 * says by texts and by trying everything. Questions that change something, and throws that do, show
 * in the answers of later calls.
 */
final class RunsTest {
    private static final int RUNS = 150;
    private static final int CALLS = 512;

    public static void main(String[] args) {
        for (int run = 0; run < RUNS; run++) {
            run(run);
        }
        callsBeyondTheLast();
        Due.end();
    }

    private static void run(int seed) {
        Random chance = new Random(seed);
        LampRhythms tested = new LampRhythms();
        SlowHarbour slow = new SlowHarbour();
        for (int i = 0; i < CALLS; i++) {
            Call call = Call.any(chance, slow, i < 100);
            Object want = call.answerOf(slow);
            Due.answer("run " + seed + ", call " + i + ": " + call, call.answerOf(tested), want);
        }
    }

    /** What they answer is free, but none may throw what the document does not name. */
    private static void callsBeyondTheLast() {
        Random chance = new Random(RUNS);
        LampRhythms tested = new LampRhythms();
        SlowHarbour any = new SlowHarbour();
        Due.pattern(tested, 1, 1);
        Due.pattern(tested, 1, 2);
        tested.lamp(3, 3, 0, 5, 255);
        tested.print();
        for (int i = 0; i < 2000; i++) {
            tested.change(0, i % 2, i % 60);
        }
        tested.correct(0, 100);
        for (int i = 0; i < 5000; i++) {
            Call call = Call.any(chance, any, i % 2 == 0);
            Object got = call.answerOf(tested);
            boolean ofTheMachine = got.toString().startsWith("of the machine");
            Due.answer("late call " + call, ofTheMachine ? got : "any", "any");
        }
    }

    /** A call's name and its arguments. */
    private static final class Call {
        private static final String[] BUILDING = {"phase", "phase", "phase", "phase", "pattern", "lamp", "print"};
        private static final String[] ALL = {"phase", "phase", "pattern", "period", "areAlike",
            "areAlikeBySeconds", "lamp", "change", "change", "fail", "fail", "shines", "sector", "isSeen",
            "common", "clashes", "notices", "print", "correct", "behind", "shown", "shown", "taken", "taken",
            "taken", "taken"};

        private final String name;
        private final int[] a = new int[6];

        private Call(String name) {
            this.name = name;
        }

        static Call any(Random chance, SlowHarbour now, boolean building) {
            String[] names = building && chance.nextInt(4) > 0 ? BUILDING : ALL;
            Call call = new Call(names[chance.nextInt(names.length)]);
            int[][] ranges = ranges(call.name, now);
            for (int i = 0; i < ranges.length; i++) {
                call.a[i] = number(chance, ranges[i][0], ranges[i][1]);
            }
            return call;
        }

        private static int number(Random chance, int least, int most) {
            switch (chance.nextInt(60)) {
                case 0: return least - 1;
                case 1: return most + 1;
                case 2: return chance.nextInt();
                case 3: return chance.nextBoolean() ? Integer.MIN_VALUE : Integer.MAX_VALUE;
                case 4: return least;
                case 5: return most;
                default: return most < least ? least : least + chance.nextInt(most - least + 1);
            }
        }

        private static int[][] ranges(String name, SlowHarbour now) {
            int[] pattern = {0, now.patterns.size() - 1};
            int[] lamp = {0, now.lamps.size() - 1};
            int[] chart = {0, now.charts.size() - 1};
            int[] place = {0, 31};
            switch (name) {
                case "phase": return new int[][] {{1, now.patterns.size() % 3 == 0 ? 9 : 2}};
                case "period": return new int[][] {pattern};
                case "areAlike":
                case "areAlikeBySeconds": return new int[][] {pattern, pattern};
                case "lamp": return new int[][] {place, place, pattern, {1, 40}, {1, 255}};
                case "change": return new int[][] {lamp, pattern, {0, 59}};
                case "fail": return new int[][] {lamp, {0, 1}};
                case "shines": return new int[][] {lamp, {0, 100000}};
                case "sector":
                case "isSeen": return new int[][] {lamp, place, place};
                case "common": return new int[][] {lamp, lamp};
                case "correct": return new int[][] {chart, {1, now.notices.size() % 2 == 0 ? 100 : 3}};
                case "behind": return new int[][] {chart};
                case "shown": return new int[][] {chart, lamp};
                case "taken": return new int[][] {chart, place, place, lamp, {0, 1000},
                    {1, now.notices.size() % 2 == 0 ? 60 : 5}};
                default: return new int[0][];
            }
        }

        Object answerOf(SlowHarbour slow) {
            Object answer = slow.answer(name, a);
            return answer instanceof Boolean ? (Boolean) answer ? 1 : 0 : answer;
        }

        Object answerOf(LampRhythms x) {
            try {
                return asked(x);
            } catch (RuntimeException e) {
                return Due.nameOf(e);
            }
        }

        private Integer asked(LampRhythms x) {
            switch (name) {
                case "phase": return x.phase(a[0]);
                case "pattern": return x.pattern();
                case "period": return x.period(a[0]);
                case "areAlike": return x.areAlike(a[0], a[1]) ? 1 : 0;
                case "areAlikeBySeconds": return x.areAlikeBySeconds(a[0], a[1]) ? 1 : 0;
                case "lamp": return x.lamp(a[0], a[1], a[2], a[3], a[4]);
                case "change": return x.change(a[0], a[1], a[2]);
                case "fail": return x.fail(a[0], a[1] % 2 != 0);
                case "shines": return x.shines(a[0], a[1]) ? 1 : 0;
                case "sector": return x.sector(a[0], a[1], a[2]);
                case "isSeen": return x.isSeen(a[0], a[1], a[2]) ? 1 : 0;
                case "common": return x.common(a[0], a[1]);
                case "clashes": return x.clashes();
                case "notices": return x.notices();
                case "print": return x.print();
                case "correct": return x.correct(a[0], a[1]);
                case "behind": return x.behind(a[0]);
                case "shown": return x.shown(a[0], a[1]);
                default: return x.taken(a[0], a[1], a[2], a[3], a[4], a[5]);
            }
        }

        @Override
        public String toString() {
            return name + java.util.Arrays.toString(a);
        }
    }

    /** The document, done in the slowest way; an exception is answered by its name. */
    private static final class SlowHarbour {
        private static final String INDEX = "IndexOutOfBoundsException";
        private static final String ARGUMENT = "IllegalArgumentException";
        private static final String STATE = "IllegalStateException";

        private record Lamp(int x, int y, int reach, int sectors, int pattern, int begins, boolean failed) {
            Lamp changed(int newPattern, int newBegins) {
                return new Lamp(x, y, reach, sectors, newPattern, newBegins, failed);
            }

            Lamp failing(boolean fails) {
                return new Lamp(x, y, reach, sectors, pattern, begins, fails);
            }
        }

        private record Notice(int number, Lamp lamp) {
        }

        private final List<Integer> draft = new ArrayList<>();
        // A sign for each second of the period: L or d.
        private final List<String> patterns = new ArrayList<>();
        private final List<Lamp> lamps = new ArrayList<>();
        private final List<Notice> notices = new ArrayList<>();
        // How many notices each chart has.
        private final List<Integer> charts = new ArrayList<>();

        Object answer(String name, int[] a) {
            switch (name) {
                case "phase": return phase(a[0]);
                case "pattern": return pattern();
                case "period": return isIn(patterns, a[0]) ? patterns.get(a[0]).length() : INDEX;
                case "areAlike":
                case "areAlikeBySeconds":
                    return isIn(patterns, a[0]) && isIn(patterns, a[1]) ? (Object) alike(a[0], a[1]) : INDEX;
                case "lamp": return lamp(a);
                case "change": return change(a[0], a[1], a[2]);
                case "fail": return fail(a[0], a[1] % 2 != 0);
                case "shines": return shines(a[0], a[1]);
                case "sector":
                case "isSeen": return place(name, a[0], a[1], a[2]);
                case "common": return isIn(lamps, a[0]) && isIn(lamps, a[1]) ? common(a[0], a[1]) : INDEX;
                case "clashes": return clashes();
                case "notices": return notices.size();
                case "print": return print();
                case "correct": return correct(a[0], a[1]);
                case "behind": return isIn(charts, a[0]) ? notices.size() - charts.get(a[0]) : INDEX;
                case "shown": return isIn(charts, a[0]) && isIn(lamps, a[1]) ? shown(a[0], a[1]) : INDEX;
                default: return taken(a);
            }
        }

        private static boolean isIn(List<?> list, int number) {
            return 0 <= number && number < list.size();
        }

        private static boolean within(int number, int least, int most) {
            return least <= number && number <= most;
        }

        private Object phase(int seconds) {
            if (!within(seconds, 1, 9)) {
                return ARGUMENT;
            }
            if (draft.size() == 6) {
                return STATE;
            }
            draft.add(seconds);
            return draft.size();
        }

        private Object pattern() {
            if (!List.of(2, 4, 6).contains(draft.size()) || patterns.size() == 20) {
                return STATE;
            }
            String text = "";
            for (int i = 0; i < draft.size(); i++) {
                text += (i % 2 == 0 ? "L" : "d").repeat(draft.get(i));
            }
            patterns.add(text);
            draft.clear();
            return patterns.size() - 1;
        }

        private boolean alike(int one, int other) {
            String a = patterns.get(one).repeat(patterns.get(other).length());
            String b = patterns.get(other).repeat(patterns.get(one).length());
            return (a + a).contains(b);
        }

        private Object lamp(int[] a) {
            if (!isIn(patterns, a[2])) {
                return INDEX;
            }
            if (!within(a[0], 0, 31) || !within(a[1], 0, 31) || !within(a[3], 1, 40) || !within(a[4], 1, 255)) {
                return ARGUMENT;
            }
            if (lamps.size() == 12) {
                return STATE;
            }
            Lamp added = new Lamp(a[0], a[1], a[3], a[4], a[2], 0, false);
            lamps.add(added);
            notices.add(new Notice(lamps.size() - 1, added));
            return lamps.size() - 1;
        }

        private Object change(int lamp, int pattern, int begins) {
            if (!isIn(lamps, lamp) || !isIn(patterns, pattern)) {
                return INDEX;
            }
            return within(begins, 0, 59) ? told(lamp, lamps.get(lamp).changed(pattern, begins)) : ARGUMENT;
        }

        private Object fail(int lamp, boolean fails) {
            if (!isIn(lamps, lamp)) {
                return INDEX;
            }
            return lamps.get(lamp).failed() == fails ? STATE : told(lamp, lamps.get(lamp).failing(fails));
        }

        private Object told(int lamp, Lamp now) {
            lamps.set(lamp, now);
            notices.add(new Notice(lamp, now));
            return notices.size() - 1;
        }

        private Object shines(int lamp, int second) {
            if (!isIn(lamps, lamp)) {
                return INDEX;
            }
            return within(second, 0, 100000) ? (Object) (signAt(lamps.get(lamp), second) == 'L') : ARGUMENT;
        }

        private char signAt(Lamp lamp, int second) {
            String text = patterns.get(lamp.pattern());
            return lamp.failed() ? 'd' : text.charAt((second + lamp.begins()) % text.length());
        }

        private Object place(String name, int lamp, int x, int y) {
            if (!isIn(lamps, lamp)) {
                return INDEX;
            }
            if (!within(x, 0, 31) || !within(y, 0, 31)) {
                return ARGUMENT;
            }
            if (name.equals("isSeen")) {
                return isSeen(lamps.get(lamp), x, y);
            }
            return sector(x - lamps.get(lamp).x(), y - lamps.get(lamp).y());
        }

        /** Turns the place by quarters of the circle until it is in the first one. */
        private static int sector(int a, int b) {
            if (a == 0 && b == 0) {
                return -1;
            }
            int quarter = 0;
            while (!(a > 0 && b >= 0)) {
                int turned = -a;
                a = b;
                b = turned;
                quarter++;
            }
            return 2 * quarter + (b >= a ? 1 : 0);
        }

        private static boolean isSeen(Lamp lamp, int x, int y) {
            int a = x - lamp.x();
            int b = y - lamp.y();
            if (Math.max(Math.abs(a), Math.abs(b)) > lamp.reach()) {
                return false;
            }
            return a == 0 && b == 0 || (lamp.sectors() & 1 << sector(a, b)) != 0;
        }

        private int common(int one, int other) {
            int places = 0;
            for (int x = 0; x < 32; x++) {
                for (int y = 0; y < 32; y++) {
                    places += isSeen(lamps.get(one), x, y) && isSeen(lamps.get(other), x, y) ? 1 : 0;
                }
            }
            return places;
        }

        private int clashes() {
            int pairs = 0;
            for (int i = 0; i < lamps.size(); i++) {
                for (int k = 0; k < i; k++) {
                    boolean alike = alike(lamps.get(i).pattern(), lamps.get(k).pattern());
                    pairs += alike && common(i, k) > 0 ? 1 : 0;
                }
            }
            return pairs;
        }

        private Object print() {
            if (charts.size() == 10) {
                return STATE;
            }
            charts.add(notices.size());
            return charts.size() - 1;
        }

        private Object correct(int chart, int many) {
            if (!isIn(charts, chart)) {
                return INDEX;
            }
            if (!within(many, 1, 100)) {
                return ARGUMENT;
            }
            int before = charts.get(chart);
            charts.set(chart, Math.min(before + many, notices.size()));
            return charts.get(chart) - before;
        }

        private int shown(int chart, int lamp) {
            for (int i = charts.get(chart) - 1; i >= 0; i--) {
                Notice notice = notices.get(i);
                if (notice.number() == lamp) {
                    return notice.lamp().failed() ? -1 : notice.lamp().pattern();
                }
            }
            return -1;
        }

        private Object taken(int[] a) {
            if (!isIn(charts, a[0]) || !isIn(lamps, a[3])) {
                return INDEX;
            }
            if (!within(a[1], 0, 31) || !within(a[2], 0, 31) || !within(a[4], 0, 1000) || !within(a[5], 1, 60)) {
                return ARGUMENT;
            }
            String look = "";
            for (int i = 0; i < a[5]; i++) {
                look += signAt(lamps.get(a[3]), a[4] + i);
            }
            List<Integer> found = new ArrayList<>();
            for (int i = 0; i < lamps.size(); i++) {
                int pattern = shown(a[0], i);
                boolean alike = pattern >= 0 && patterns.get(pattern).repeat(60).contains(look);
                if (alike && isSeen(lamps.get(i), a[1], a[2])) {
                    found.add(i);
                }
            }
            return found.isEmpty() ? -1 : found.size() == 1 ? found.get(0) : -2;
        }
    }
}
