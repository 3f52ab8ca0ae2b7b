import java.util.ArrayList;
import java.util.Arrays;

/**
 * Lights of a harbour: patterns of light and dark with periods, lamps with sectors and reach, lights
 * that are alike and can be seen from one place, lamps that fail, notices of all that changes, charts
 * that are printed and corrected by notices, and pilots who tell a light by its rhythm.
 */
public final class LampRhythms {
    /** There is none. */
    public static final int NONE = -1;
    /** There are several. */
    public static final int SEVERAL = -2;

    private static final int MOST_PHASES = 6;
    private static final int LONGEST_PHASE = 9;
    private static final int MOST_PATTERNS = 20;
    private static final int MOST_LAMPS = 12;
    private static final int MOST_CHARTS = 10;
    // Each notice takes a call of its own, and an object has no more than 512 calls.
    private static final int MOST_NOTICES = 512;
    private static final int SIDE = 32;
    private static final int FARTHEST_REACH = 40;
    private static final int ALL_SECTORS = 255;
    private static final int LAST_BEGINNING = 59;
    private static final int LAST_SECOND = 100000;
    private static final int MOST_CORRECTIONS = 100;
    private static final int LAST_FROM = 1000;
    private static final int LONGEST_LOOK = 60;

    private final int[] draft = new int[MOST_PHASES];
    private int drafted = 0;
    private final ArrayList<Pattern> patterns = new ArrayList<>();
    private final ArrayList<Lamp> lamps = new ArrayList<>();
    private final ArrayList<Notice> told = new ArrayList<>();
    private final ArrayList<Chart> charts = new ArrayList<>();

    /** Makes a harbour without patterns and lamps. */
    public LampRhythms() {
    }

    // ---- patterns

    /** Adds a phase to the draft of a pattern; returns how many phases the draft has then. */
    public int phase(int seconds) throws IllegalArgumentException, IllegalStateException {
        requireWithin(seconds, 1, LONGEST_PHASE);
        if (drafted >= draft.length) {
            throw new IllegalStateException("the draft has all its phases");
        }
        draft[drafted] = seconds;
        drafted++;
        return drafted;
    }

    /** Makes a pattern of the draft, which is empty then; returns the pattern's number. */
    public int pattern() throws IllegalStateException {
        if (drafted < 2 || drafted % 2 != 0) {
            throw new IllegalStateException("the draft has not 2, 4 or 6 phases");
        }
        if (patterns.size() >= MOST_PATTERNS) {
            throw new IllegalStateException("there are all the patterns that can be");
        }
        patterns.add(new Pattern(Arrays.copyOf(draft, drafted)));
        drafted = 0;
        return patterns.size() - 1;
    }

    /** Returns the seconds of a pattern's period. */
    public int period(int pattern) throws IndexOutOfBoundsException {
        return patternAt(pattern).period;
    }

    /** Returns whether two patterns are alike, found by their phases. */
    public boolean areAlike(int pattern, int other) throws IndexOutOfBoundsException {
        return patternAt(pattern).hasPhasesOf(patternAt(other));
    }

    /** Returns whether two patterns are alike, found second by second. */
    public boolean areAlikeBySeconds(int pattern, int other) throws IndexOutOfBoundsException {
        return patternAt(pattern).hasSecondsOf(patternAt(other));
    }

    // ---- lamps

    /** Adds a lamp, with a beginning of 0; returns its number. */
    public int lamp(int x, int y, int pattern, int reach, int sectors)
            throws IndexOutOfBoundsException, IllegalArgumentException, IllegalStateException {
        requirePattern(pattern);
        requirePlace(x, y);
        requireWithin(reach, 1, FARTHEST_REACH);
        requireWithin(sectors, 1, ALL_SECTORS);
        if (lamps.size() >= MOST_LAMPS) {
            throw new IllegalStateException("there are all the lamps that can be");
        }
        int number = lamps.size();
        lamps.add(new Lamp(x, y, pattern, reach, sectors));
        tell(number);
        return number;
    }

    /** Gives a lamp another pattern and beginning; returns the number of the notice. */
    public int change(int lamp, int pattern, int begins) throws IndexOutOfBoundsException, IllegalArgumentException {
        Lamp changed = lampAt(lamp);
        requirePattern(pattern);
        requireWithin(begins, 0, LAST_BEGINNING);
        changed.pattern = pattern;
        changed.begins = begins;
        return tell(lamp);
    }

    /** Lets a lamp fail, or mends it; returns the number of the notice. */
    public int fail(int lamp, boolean fails) throws IndexOutOfBoundsException, IllegalStateException {
        Lamp changed = lampAt(lamp);
        if (changed.failed == fails) {
            throw new IllegalStateException("the lamp has failed already, or has not");
        }
        changed.failed = fails;
        return tell(lamp);
    }

    /** Returns whether a lamp shines in a second. */
    public boolean shines(int lamp, int second) throws IndexOutOfBoundsException, IllegalArgumentException {
        Lamp asked = lampAt(lamp);
        requireWithin(second, 0, LAST_SECOND);
        return isLit(asked, second);
    }

    /** Returns the sector of a lamp in which a place is; NONE if it is the place of the lamp. */
    public int sector(int lamp, int x, int y) throws IndexOutOfBoundsException, IllegalArgumentException {
        Lamp asked = lampAt(lamp);
        requirePlace(x, y);
        return Lamp.sectorOf(x - asked.x, y - asked.y);
    }

    /** Returns whether a lamp can be seen from a place. */
    public boolean isSeen(int lamp, int x, int y) throws IndexOutOfBoundsException, IllegalArgumentException {
        Lamp asked = lampAt(lamp);
        requirePlace(x, y);
        return asked.canBeSeenFrom(x, y);
    }

    /** Returns from how many places both of two lamps can be seen. */
    public int common(int lamp, int other) throws IndexOutOfBoundsException {
        return lampAt(lamp).placesSharedWith(lampAt(other));
    }

    /** Returns how many pairs of lamps clash. */
    public int clashes() {
        int pairs = 0;
        for (int i = 0; i < lamps.size(); i++) {
            for (int k = i + 1; k < lamps.size(); k++) {
                if (clash(lamps.get(i), lamps.get(k))) {
                    pairs++;
                }
            }
        }
        return pairs;
    }

    // ---- notices and charts

    /** Returns how many notices there are. */
    public int notices() {
        return told.size();
    }

    /** Prints a chart, which has all notices so far; returns its number. */
    public int print() throws IllegalStateException {
        if (charts.size() >= MOST_CHARTS) {
            throw new IllegalStateException("there are all the charts that can be");
        }
        Chart printed = new Chart();
        putIn(printed, told.size());
        charts.add(printed);
        return charts.size() - 1;
    }

    /** Puts notices into a chart, as many as are wanted or left; returns how many. */
    public int correct(int chart, int many) throws IndexOutOfBoundsException, IllegalArgumentException {
        Chart corrected = chartAt(chart);
        requireWithin(many, 1, MOST_CORRECTIONS);
        int put = Math.min(many, lackOf(corrected));
        putIn(corrected, put);
        return put;
    }

    /** Returns how many notices a chart lacks. */
    public int behind(int chart) throws IndexOutOfBoundsException {
        return lackOf(chartAt(chart));
    }

    /** Returns the pattern that a chart shows for a lamp; NONE if it shows none, or one that failed. */
    public int shown(int chart, int lamp) throws IndexOutOfBoundsException {
        Chart asked = chartAt(chart);
        requireLamp(lamp);
        return asked.patternOf(lamp);
    }

    // ---- pilots

    /** Returns the lamp of the chart that a light could be; NONE or SEVERAL if it is not just one. */
    public int taken(int chart, int x, int y, int lamp, int from, int many)
            throws IndexOutOfBoundsException, IllegalArgumentException {
        Chart used = chartAt(chart);
        Lamp light = lampAt(lamp);
        requirePlace(x, y);
        requireWithin(from, 0, LAST_FROM);
        requireWithin(many, 1, LONGEST_LOOK);
        long look = lookAt(light, from, many);
        int found = NONE;
        for (int i = 0; i < lamps.size(); i++) {
            int pattern = used.patternOf(i);
            if (pattern != NONE && lamps.get(i).canBeSeenFrom(x, y) && patternAt(pattern).canLookLike(look, many)) {
                if (found != NONE) {
                    return SEVERAL;
                }
                found = i;
            }
        }
        return found;
    }

    // ---- what the calls share

    private static void requireWithin(int number, int least, int most) {
        if (number < least || number > most) {
            throw new IllegalArgumentException("a number is out of its range");
        }
    }

    private static void requirePlace(int x, int y) {
        requireWithin(x, 0, SIDE - 1);
        requireWithin(y, 0, SIDE - 1);
    }

    private void requirePattern(int number) {
        if (number < 0 || number >= patterns.size()) {
            throw new IndexOutOfBoundsException("there is no such pattern");
        }
    }

    private void requireLamp(int number) {
        if (number < 0 || number >= lamps.size()) {
            throw new IndexOutOfBoundsException("there is no such lamp");
        }
    }

    private Pattern patternAt(int number) {
        requirePattern(number);
        return patterns.get(number);
    }

    private Lamp lampAt(int number) {
        requireLamp(number);
        return lamps.get(number);
    }

    private Chart chartAt(int number) {
        if (number < 0 || number >= charts.size()) {
            throw new IndexOutOfBoundsException("there is no such chart");
        }
        return charts.get(number);
    }

    private boolean isLit(Lamp lamp, int second) {
        return !lamp.failed && patternAt(lamp.pattern).isLight(second + lamp.begins);
    }

    private boolean clash(Lamp one, Lamp other) {
        return patternAt(one.pattern).hasPhasesOf(patternAt(other.pattern)) && one.placesSharedWith(other) > 0;
    }

    // Beyond the 512th call of an object nothing is promised; more notices are not kept.
    private int tell(int lamp) {
        if (told.size() >= MOST_NOTICES) {
            return NONE;
        }
        Lamp now = lampAt(lamp);
        told.add(new Notice(lamp, now.failed ? NONE : now.pattern));
        return told.size() - 1;
    }

    private int lackOf(Chart chart) {
        return told.size() - chart.notices;
    }

    private void putIn(Chart chart, int many) {
        int end = Math.min(chart.notices + many, told.size());
        for (int i = chart.notices; i < end; i++) {
            chart.putIn(told.get(i));
        }
    }

    /** What is seen of a lamp: the bit k tells whether it shines in the k-th second from the first. */
    private long lookAt(Lamp lamp, int from, int many) {
        long look = 0L;
        for (int i = 0; i < many; i++) {
            if (isLit(lamp, from + i)) {
                look |= 1L << i;
            }
        }
        return look;
    }

    /** A rhythm of light and dark that begins again with each period. */
    private static final class Pattern {
        final int period;
        // The bit k tells whether the second k of the period is light; 6 phases of 9 seconds fit.
        final long light;
        // The fewest phases, from the first, that make the whole rhythm when they are repeated.
        final int[] cycle;

        Pattern(int[] phases) {
            int seconds = 0;
            long lit = 0L;
            for (int i = 0; i < phases.length; i++) {
                for (int k = 0; k < phases[i]; k++) {
                    if (i % 2 == 0) {
                        lit |= 1L << seconds;
                    }
                    seconds++;
                }
            }
            this.period = seconds;
            this.light = lit;
            this.cycle = Arrays.copyOf(phases, fewestOf(phases));
        }

        private static int fewestOf(int[] phases) {
            for (int few = 2; few < phases.length; few += 2) {
                if (phases.length % few == 0 && repeatsAfter(phases, few)) {
                    return few;
                }
            }
            return phases.length;
        }

        private static boolean repeatsAfter(int[] phases, int few) {
            for (int i = few; i < phases.length; i++) {
                if (phases[i] != phases[i - few]) {
                    return false;
                }
            }
            return true;
        }

        boolean isLight(int second) {
            if (period < 1 || second < 0) {
                return false;
            }
            return (light >>> (second % period) & 1L) == 1L;
        }

        boolean hasPhasesOf(Pattern other) {
            if (cycle.length != other.cycle.length) {
                return false;
            }
            // Only turns by an even number put light phases upon light ones.
            for (int turn = 0; turn < cycle.length; turn += 2) {
                if (hasPhasesTurned(other.cycle, turn)) {
                    return true;
                }
            }
            return false;
        }

        private boolean hasPhasesTurned(int[] others, int turn) {
            for (int i = 0; i < cycle.length && i < others.length; i++) {
                if (cycle[(i + turn) % cycle.length] != others[i]) {
                    return false;
                }
            }
            return true;
        }

        boolean hasSecondsOf(Pattern other) {
            for (int later = 0; later < period; later++) {
                if (hasSecondsLater(other, later)) {
                    return true;
                }
            }
            return false;
        }

        private boolean hasSecondsLater(Pattern other, int later) {
            // After so many seconds both begin again together, so what holds till then holds for ever.
            int seconds = period * other.period;
            for (int i = 0; i < seconds; i++) {
                if (isLight(i + later) != other.isLight(i)) {
                    return false;
                }
            }
            return true;
        }

        boolean canLookLike(long look, int many) {
            for (int begun = 0; begun < period; begun++) {
                if (looksLike(look, many, begun)) {
                    return true;
                }
            }
            return false;
        }

        private boolean looksLike(long look, int many, int begun) {
            for (int i = 0; i < many; i++) {
                boolean lit = (look >>> i & 1L) == 1L;
                if (isLight(begun + i) != lit) {
                    return false;
                }
            }
            return true;
        }
    }

    /** A lamp at its place; what changes of it are pattern, beginning and failure. */
    private static final class Lamp {
        final int x;
        final int y;
        // A row for each y; its bit x tells whether the lamp can be seen from the place x, y.
        final int[] sight;
        int pattern;
        int begins = 0;
        boolean failed = false;

        Lamp(int x, int y, int pattern, int reach, int sectors) {
            int[] rows = new int[SIDE];
            for (int row = 0; row < rows.length; row++) {
                for (int column = 0; column < SIDE; column++) {
                    if (isWithin(column - x, row - y, reach, sectors)) {
                        rows[row] |= 1 << column;
                    }
                }
            }
            this.x = x;
            this.y = y;
            this.sight = rows;
            this.pattern = pattern;
        }

        private static boolean isWithin(int a, int b, int reach, int sectors) {
            if (Math.abs(a) > reach || Math.abs(b) > reach) {
                return false;
            }
            int sector = sectorOf(a, b);
            return sector == NONE || (sectors >>> sector & 1) == 1;
        }

        static int sectorOf(int a, int b) {
            if (a == 0 && b == 0) {
                return NONE;
            }
            int quarter = quarterOf(a, b);
            int along = quarter % 2 == 0 ? Math.abs(a) : Math.abs(b);
            int across = quarter % 2 == 0 ? Math.abs(b) : Math.abs(a);
            return across >= along ? 2 * quarter + 1 : 2 * quarter;
        }

        private static int quarterOf(int a, int b) {
            if (a > 0 && b >= 0) {
                return 0;
            }
            if (a <= 0 && b > 0) {
                return 1;
            }
            if (a < 0 && b <= 0) {
                return 2;
            }
            return 3;
        }

        boolean canBeSeenFrom(int column, int row) {
            if (row < 0 || row >= sight.length || column < 0 || column >= SIDE) {
                return false;
            }
            return (sight[row] >>> column & 1) == 1;
        }

        int placesSharedWith(Lamp other) {
            int places = 0;
            for (int row = 0; row < sight.length && row < other.sight.length; row++) {
                places += Integer.bitCount(sight[row] & other.sight[row]);
            }
            return places;
        }
    }

    /** A lamp as it was when the notice was made. */
    private static final class Notice {
        final int lamp;
        // NONE if the lamp has failed: a chart shows no pattern then.
        final int pattern;

        Notice(int lamp, int pattern) {
            this.lamp = lamp;
            this.pattern = pattern;
        }
    }

    /** What is known of the lamps by the first of all notices. */
    private static final class Chart {
        // A pattern for each lamp; NONE for one that is not shown, or shown as failed.
        final int[] patterns = new int[MOST_LAMPS];
        int notices = 0;

        Chart() {
            Arrays.fill(patterns, NONE);
        }

        void putIn(Notice notice) {
            if (notice.lamp >= 0 && notice.lamp < patterns.length) {
                patterns[notice.lamp] = notice.pattern;
            }
            notices++;
        }

        int patternOf(int lamp) {
            return lamp >= 0 && lamp < patterns.length ? patterns[lamp] : NONE;
        }
    }
}
