import java.util.Arrays;

/**
 * Two wells on one beam: houses, ropes over beams that hang two buckets each, and the hours in
 * which they are pulled. The document's promises say what each call answers.
 */
public final class TwoWells {
    /** There is none. */
    public static final int NONE = -1;

    private static final int NO_SUCH = -2;
    private static final int BAD_NUMBER = -3;
    private static final int TOO_MANY = -4;
    private static final int NOT_NOW = -5;
    private static final int MISSING = -6;
    private static final int NO_PLACE = -7;
    private static final int FAULT_BASE = -30;

    private static final int MOST_BYTES = 900;
    private static final int FEED_BYTES = 20;
    private static final int MOST_HOUSES = 10;
    private static final int MOST_ROPES = 16;
    private static final int LAST_HOUR = 9999;
    private static final int DAY = 12;
    private static final int ROWS = 4;
    private static final int IMAGES = 2;
    private static final int MOST_NUMBERS = 60;
    private static final int MOST_CUSTOM_HOURS = 99;
    private static final int MOST_DROUGHT_HOURS = 60;
    private static final int MOST_CALM_HOURS = 99;
    private static final int MOST_ALONE_HOURS = 7;
    private static final int MOST_ALONE_ROPES = 3;
    private static final int MOST_CHEAPEST_HOURS = 6;
    private static final int MOST_SOONEST_BUCKETS = 3;
    private static final int MOST_DWELLERS = 7;
    private static final int MOST_WATCHED_HOUSES = 6;
    private static final int MOST_SEARCH_HOUSES = 4;
    private static final int MOST_SEARCH_ROPES = 3;
    private static final int MOST_STATES = 3000;
    private static final int MOST_STONES = 9;
    private static final int EMPTY_WEIGHT = 2;
    /** In a row of told hours a pull is this many times the house, and the rope. */
    private static final int PULL_BASE = 20;
    /** In a row of told hours this stands between two hours. */
    private static final long HOUR_SIGN = -1;
    /** Results of a call stand from this "what" on, one for each house or hour. */
    private static final int LISTED = 10;

    private final Tape tape = new Tape();
    private final Land here = new Land();
    private final Land trial = new Land();
    private final Land[] images = new Land[IMAGES];
    private final boolean[] imaged = new boolean[IMAGES];
    private final NumberRow[] rows = new NumberRow[ROWS];
    private final Tally tally = new Tally();
    private final Ties ties = new Ties();
    private final Lonely lonely = new Lonely();
    private final Homes homes = new Homes();
    private final Sight sight = new Sight();
    /** The largest part of an object, so it is made only when something is sought. */
    private Search search;

    public TwoWells() {
        for (int i = 0; i < IMAGES; i++) {
            images[i] = new Land();
        }
        for (int i = 0; i < ROWS; i++) {
            rows[i] = new NumberRow();
        }
    }

    // ---- the land

    public int feed(int a, int b, int c, int d, int e) {
        if (tape.taped + FEED_BYTES > MOST_BYTES) {
            return NOT_NOW;
        }
        tape.addInt(a);
        tape.addInt(b);
        tape.addInt(c);
        tape.addInt(d);
        tape.addInt(e);
        return tape.taped;
    }

    public int land(int n) {
        if (n < 0 || n > tape.taped) {
            return BAD_NUMBER;
        }
        tape.readText(n, trial);
        if (tape.faultKind != 0) {
            return FAULT_BASE - tape.faultKind;
        }
        here.takeAll(trial);
        return here.lines;
    }

    public int fault(int what) {
        switch (what) {
            case 0:
                return tape.faultKind;
            case 1:
                return tape.faultPlace;
            default:
                return NONE;
        }
    }

    public int house(int h, int what) {
        if (!here.hasHouse(h)) {
            return NO_SUCH;
        }
        switch (what) {
            case 0:
                return here.strength[h];
            case 1:
                return here.level[h];
            case 2:
                return here.stock[h];
            case 3:
                return here.thirst[h];
            case 4:
                return here.had(h);
            case 5:
                return here.quenched[h];
            case 6:
                return here.wasted[h];
            case 7:
                return here.ropeBits(h);
            default:
                return NO_SUCH;
        }
    }

    public int rope(int r, int what) {
        if (!here.hasRope(r)) {
            return NO_SUCH;
        }
        switch (what) {
            case 0:
                return here.end[2 * r];
            case 1:
                return here.end[2 * r + 1];
            case 2:
                return here.length[r];
            case 3:
                return here.depthOf(2 * r);
            case 4:
                return here.depthOf(2 * r + 1);
            case 5:
                return here.filled[2 * r] ? 1 : 0;
            case 6:
                return here.filled[2 * r + 1] ? 1 : 0;
            case 7:
                return here.weight(2 * r);
            case 8:
                return here.weight(2 * r + 1);
            case 9:
                return here.severed[r] ? 1 : 0;
            default:
                return NO_SUCH;
        }
    }

    // ---- hours

    public int pass() {
        if (here.hour >= LAST_HOUR) {
            return NOT_NOW;
        }
        tally.doHour(here, NONE, NONE);
        return tally.drunk;
    }

    public int pull(int h, int r) {
        if (!here.hangs(r, h)) {
            return NO_SUCH;
        }
        if (here.severed[r] || here.hour >= LAST_HOUR) {
            return NOT_NOW;
        }
        tally.doHour(here, h, r);
        return tally.drunk;
    }

    public int judge(int row, int what) {
        if (!isRow(row) || what < 0 || what > 4) {
            return NO_SUCH;
        }
        if (rows[row].isMissing()) {
            return MISSING;
        }
        trial.takeAll(here);
        tally.doTold(trial, rows[row]);
        switch (what) {
            case 0:
                return tally.place;
            case 1:
                return tally.why;
            case 2:
                return tally.hours;
            case 3:
                return tally.drunk;
            default:
                return tally.pullCount;
        }
    }

    public int perform(int row) {
        if (!isRow(row)) {
            return NO_SUCH;
        }
        if (rows[row].isMissing()) {
            return MISSING;
        }
        tally.doTold(here, rows[row]);
        return tally.hours;
    }

    public int custom(int n, int what) {
        boolean asksHouse = what >= LISTED && here.hasHouse(what - LISTED);
        if (!asksHouse && (what < 0 || what > 3)) {
            return NO_SUCH;
        }
        int refusal = customRefusal(n);
        if (refusal != 0) {
            return refusal;
        }
        trial.takeAll(here);
        tally.doCustom(trial, n);
        if (asksHouse) {
            return trial.had(what - LISTED) - here.had(what - LISTED);
        }
        switch (what) {
            case 0:
                return tally.drunk;
            case 1:
                return trial.allQuenched() - here.allQuenched();
            case 2:
                return tally.pullCount;
            default:
                return tally.bothCount;
        }
    }

    public int live(int n) {
        int refusal = customRefusal(n);
        if (refusal != 0) {
            return refusal;
        }
        tally.doCustom(here, n);
        return tally.drunk;
    }

    private int customRefusal(int n) {
        if (n < 1 || n > MOST_CUSTOM_HOURS) {
            return BAD_NUMBER;
        }
        return here.hour + n > LAST_HOUR ? NOT_NOW : 0;
    }

    public int drought(int seed, int hours) {
        if (hours < 1 || hours > MOST_DROUGHT_HOURS) {
            return BAD_NUMBER;
        }
        if (here.hour + hours > LAST_HOUR) {
            return NOT_NOW;
        }
        tally.doDrawn(here, seed, hours);
        return tally.drunk;
    }

    public int cut(int r) {
        if (!here.hasRope(r)) {
            return NO_SUCH;
        }
        if (here.severed[r]) {
            return NOT_NOW;
        }
        here.severed[r] = true;
        return 0;
    }

    public int stones(int r, boolean second, int n) {
        if (!here.hasRope(r)) {
            return NO_SUCH;
        }
        if (n < 0 || n > MOST_STONES) {
            return BAD_NUMBER;
        }
        int bucket = second ? 2 * r + 1 : 2 * r;
        here.ballast[bucket] = n;
        return here.weight(bucket);
    }

    // ---- rest

    public int rests() {
        return here.restBits();
    }

    public int calm() {
        trial.takeAll(here);
        for (int hours = 0; hours <= MOST_CALM_HOURS; hours++) {
            if (trial.restBits() == (1 << trial.ropes) - 1) {
                return hours;
            }
            tally.doHour(trial, NONE, NONE);
        }
        return NONE;
    }

    public int even() {
        int sum = 0;
        for (int r = 0; r < here.ropes; r++) {
            if (!here.severed[r]) {
                sum += Math.abs(here.weight(2 * r) - here.weight(2 * r + 1));
            }
        }
        return sum;
    }

    public int lifts(int h, int r) {
        if (!here.hangs(r, h)) {
            return NO_SUCH;
        }
        if (here.severed[r]) {
            return NOT_NOW;
        }
        boolean isFirst = here.end[2 * r] == h;
        int now = here.depth[r];
        int then = here.depthBehind(r, isFirst, !isFirst);
        return (isFirst ? then < now : then > now) ? 1 : 0;
    }

    // ---- rings

    public int together() {
        ties.look(here, NONE);
        return ties.greatestLoose();
    }

    public int parted() {
        ties.look(here, NONE);
        return ties.oneSide();
    }

    public int ring() {
        int fewest = NONE;
        for (int r = 0; r < here.ropes; r++) {
            if (!here.severed[r]) {
                ties.look(here, r);
                int way = ties.steps(here.end[2 * r], here.end[2 * r + 1]);
                if (way != NONE && (fewest == NONE || way + 1 < fewest)) {
                    fewest = way + 1;
                }
            }
        }
        return fewest;
    }

    public int neighbours(int h) {
        if (!here.hasHouse(h)) {
            return NO_SUCH;
        }
        ties.look(here, NONE);
        return ties.part(h);
    }

    public int severs(int r) {
        if (!here.hasRope(r)) {
            return NO_SUCH;
        }
        if (here.severed[r]) {
            return NOT_NOW;
        }
        ties.look(here, r);
        int part = ties.part(here.end[2 * r]);
        return (part >> here.end[2 * r + 1] & 1) == 1 ? 0 : 1;
    }

    // ---- sought

    public int soonest(int h, int n) {
        if (!here.hasHouse(h)) {
            return NO_SUCH;
        }
        if (n < 1 || n > MOST_SOONEST_BUCKETS) {
            return BAD_NUMBER;
        }
        return searcher().fewestHours(h, n, NONE);
    }

    public int loss(int h, int r) {
        if (!here.hasHouse(h) || !here.hasRope(r)) {
            return NO_SUCH;
        }
        if (here.severed[r]) {
            return NOT_NOW;
        }
        int now = searcher().fewestHours(h, 1, NONE);
        if (now == TOO_MANY) {
            return TOO_MANY;
        }
        if (now == NONE) {
            return NOT_NOW;
        }
        int then = searcher().fewestHours(h, 1, r);
        if (then == TOO_MANY || then == NONE) {
            return then;
        }
        return then - now;
    }

    public int cheapest(int h, int m) {
        if (!here.hasHouse(h)) {
            return NO_SUCH;
        }
        if (m < 1 || m > MOST_CHEAPEST_HOURS) {
            return BAD_NUMBER;
        }
        return searcher().fewestPulls(h, m);
    }

    private Search searcher() {
        if (search == null) {
            search = new Search(here);
        }
        return search;
    }

    public int alone(int h, int n, int what) {
        boolean asksHour = what >= LISTED && what < LISTED + MOST_ALONE_HOURS;
        if (!here.hasHouse(h) || (what != 0 && !asksHour)) {
            return NO_SUCH;
        }
        if (n < 1 || n > MOST_ALONE_HOURS) {
            return BAD_NUMBER;
        }
        if (here.openCount(h) > MOST_ALONE_ROPES) {
            return TOO_MANY;
        }
        if (asksHour && what - LISTED >= n) {
            return NO_PLACE;
        }
        lonely.seek(here, h, n);
        return asksHour ? lonely.bestRow[what - LISTED] : lonely.most;
    }

    public int mate(int h) {
        if (!here.hasHouse(h)) {
            return NO_SUCH;
        }
        ties.look(here, NONE);
        int mate = NONE;
        int fewest = DAY + 1;
        for (int other = 0; other < here.houses; other++) {
            int shared = Integer.bitCount(here.thirst[h] & here.thirst[other]);
            if (other != h && !ties.tied(h, other) && shared < fewest) {
                mate = other;
                fewest = shared;
            }
        }
        return mate;
    }

    public int dwellings(int what) {
        boolean asksHouse = what >= LISTED && here.hasHouse(what - LISTED);
        if (!asksHouse && what != 0 && what != 1) {
            return NO_SUCH;
        }
        if (here.houses > MOST_DWELLERS) {
            return TOO_MANY;
        }
        homes.settle(here);
        if (asksHouse) {
            return homes.bestOrder[what - LISTED];
        }
        return what == 0 ? homes.leastClash : homes.fewestMoved;
    }

    public int clash(int r) {
        if (r != NONE) {
            return here.hasRope(r) ? here.sharedThirst(r) : NO_SUCH;
        }
        int sum = 0;
        for (int i = 0; i < here.ropes; i++) {
            if (!here.severed[i]) {
                sum += here.sharedThirst(i);
            }
        }
        return sum;
    }

    public int seen(int row) {
        int refusal = sightRefusal(row);
        if (refusal != 0) {
            return refusal;
        }
        sight.watch(here, rows[row]);
        return sight.ways;
    }

    public int pulled(int row) {
        int refusal = sightRefusal(row);
        if (refusal != 0) {
            return refusal;
        }
        sight.watch(here, rows[row]);
        return sight.ways == 0 ? 0 : sight.musts;
    }

    private int sightRefusal(int row) {
        if (!isRow(row)) {
            return NO_SUCH;
        }
        if (rows[row].isMissing()) {
            return MISSING;
        }
        if (rows[row].size != here.ropes) {
            return NO_PLACE;
        }
        return here.houses > MOST_WATCHED_HOUSES ? TOO_MANY : 0;
    }

    // ---- rows of numbers, images

    public int numbers(int row, int sort, int n) {
        if (!isRow(row) || sort < 0 || sort > 3) {
            return NO_SUCH;
        }
        if (n < 0 || n > MOST_NUMBERS) {
            return BAD_NUMBER;
        }
        rows[row].begin(sort, n);
        return 0;
    }

    public long write(int row, int i, long v) {
        if (!isRow(row)) {
            return NO_SUCH;
        }
        if (rows[row].isMissing()) {
            return MISSING;
        }
        if (i < 0 || i >= rows[row].size) {
            return NO_PLACE;
        }
        return rows[row].put(i, v);
    }

    public int copy(int row) {
        if (!isRow(row)) {
            return NO_SUCH;
        }
        if (rows[row].isMissing()) {
            return MISSING;
        }
        if (rows[row].size < here.ropes) {
            return NO_PLACE;
        }
        for (int r = 0; r < here.ropes; r++) {
            rows[row].put(r, here.depth[r]);
        }
        return here.ropes;
    }

    private static boolean isRow(int row) {
        return row >= 0 && row < ROWS;
    }

    public int image(int i) {
        if (i < 0 || i >= IMAGES) {
            return NO_SUCH;
        }
        images[i].takeAll(here);
        imaged[i] = true;
        return 0;
    }

    public int restore(int i) {
        if (i < 0 || i >= IMAGES) {
            return NO_SUCH;
        }
        if (!imaged[i]) {
            return NOT_NOW;
        }
        here.takeAll(images[i]);
        return 0;
    }

    public int count(int what) {
        switch (what) {
            case 0:
                return here.houses;
            case 1:
                return here.ropes;
            case 2:
                return here.hour;
            case 3:
                return here.heavier;
            case 4:
                return here.fly;
            case 5:
                return here.allStock();
            case 6:
                return here.fullBuckets();
            case 7:
                return tape.taped;
            case 8:
                return here.lines;
            default:
                return NONE;
        }
    }

    /** A land with all that stands in it: what was told, and what the hours have made of it. */
    private static final class Land {
        int houses;
        int ropes;
        int hour;
        int heavier;
        int fly;
        int lines;
        final int[] strength = new int[MOST_HOUSES];
        final int[] level = new int[MOST_HOUSES];
        final int[] stock = new int[MOST_HOUSES];
        final int[] thirst = new int[MOST_HOUSES];
        final int[] quenched = new int[MOST_HOUSES];
        final int[] wasted = new int[MOST_HOUSES];
        final int[] length = new int[MOST_ROPES];
        /** The depth of the first bucket; the second one's is the length less that. */
        final int[] depth = new int[MOST_ROPES];
        final boolean[] severed = new boolean[MOST_ROPES];
        /** Bucket 2 r hangs at the first house of rope r, bucket 2 r + 1 at the second. */
        final int[] end = new int[2 * MOST_ROPES];
        final int[] ballast = new int[2 * MOST_ROPES];
        final boolean[] filled = new boolean[2 * MOST_ROPES];

        Land() {
            heavier = 5;
            fly = 8;
        }

        void begin() {
            houses = 0;
            ropes = 0;
            hour = 0;
            heavier = 5;
            fly = 8;
            lines = 0;
        }

        void addHouse(int itsStrength) {
            if (houses < MOST_HOUSES) {
                strength[houses] = itsStrength;
                level[houses] = 3;
                stock[houses] = 9;
                thirst[houses] = 0;
                quenched[houses] = 0;
                wasted[houses] = 0;
                houses++;
            }
        }

        void addRope(int first, int second, int itsLength) {
            if (ropes < MOST_ROPES) {
                length[ropes] = itsLength;
                depth[ropes] = 0;
                severed[ropes] = false;
                setBucket(2 * ropes, first);
                setBucket(2 * ropes + 1, second);
                ropes++;
            }
        }

        private void setBucket(int bucket, int itsHouse) {
            end[bucket] = itsHouse;
            ballast[bucket] = 0;
            filled[bucket] = false;
        }

        void takeAll(Land from) {
            houses = from.houses;
            ropes = from.ropes;
            heavier = from.heavier;
            fly = from.fly;
            lines = from.lines;
            System.arraycopy(from.strength, 0, strength, 0, MOST_HOUSES);
            System.arraycopy(from.level, 0, level, 0, MOST_HOUSES);
            System.arraycopy(from.thirst, 0, thirst, 0, MOST_HOUSES);
            System.arraycopy(from.length, 0, length, 0, MOST_ROPES);
            System.arraycopy(from.severed, 0, severed, 0, MOST_ROPES);
            System.arraycopy(from.end, 0, end, 0, 2 * MOST_ROPES);
            System.arraycopy(from.ballast, 0, ballast, 0, 2 * MOST_ROPES);
            takeMoved(from);
        }

        /** Takes over only what an hour can change. */
        void takeMoved(Land from) {
            hour = from.hour;
            System.arraycopy(from.stock, 0, stock, 0, MOST_HOUSES);
            System.arraycopy(from.quenched, 0, quenched, 0, MOST_HOUSES);
            System.arraycopy(from.wasted, 0, wasted, 0, MOST_HOUSES);
            System.arraycopy(from.depth, 0, depth, 0, MOST_ROPES);
            System.arraycopy(from.filled, 0, filled, 0, 2 * MOST_ROPES);
        }

        boolean hasHouse(int h) {
            return h >= 0 && h < houses;
        }

        boolean hasRope(int r) {
            return r >= 0 && r < ropes;
        }

        /** Whether there are such a rope and such a house, and the rope is one of the house's. */
        boolean hangs(int r, int h) {
            return hasHouse(h) && hasRope(r) && (end[2 * r] == h || end[2 * r + 1] == h);
        }

        boolean hangsOpen(int r, int h) {
            return hangs(r, h) && !severed[r];
        }

        int ropeBits(int h) {
            int bits = 0;
            for (int r = 0; r < ropes; r++) {
                if (hangs(r, h)) {
                    bits |= 1 << r;
                }
            }
            return bits;
        }

        int openCount(int h) {
            int open = 0;
            for (int r = 0; r < ropes; r++) {
                if (hangsOpen(r, h)) {
                    open++;
                }
            }
            return open;
        }

        /** The so many-th (from 1 on) of a house's ropes that aren't cut, or none. */
        int openRope(int h, int nth) {
            int open = 0;
            for (int r = 0; r < ropes; r++) {
                if (hangsOpen(r, h)) {
                    open++;
                    if (open == nth) {
                        return r;
                    }
                }
            }
            return NONE;
        }

        int had(int h) {
            return quenched[h] + wasted[h];
        }

        int allQuenched() {
            int sum = 0;
            for (int h = 0; h < houses; h++) {
                sum += quenched[h];
            }
            return sum;
        }

        int allStock() {
            int sum = 0;
            for (int h = 0; h < houses; h++) {
                sum += stock[h];
            }
            return sum;
        }

        int fullBuckets() {
            int sum = 0;
            for (int bucket = 0; bucket < 2 * ropes; bucket++) {
                if (filled[bucket] && !severed[bucket / 2]) {
                    sum++;
                }
            }
            return sum;
        }

        int sharedThirst(int r) {
            return Integer.bitCount(thirst[end[2 * r]] & thirst[end[2 * r + 1]]);
        }

        boolean thirstsNow(int h) {
            return (thirst[h] >> hour % DAY & 1) == 1;
        }

        int depthOf(int bucket) {
            int r = bucket / 2;
            return bucket % 2 == 0 ? depth[r] : length[r] - depth[r];
        }

        int emptyWeight(int bucket) {
            return EMPTY_WEIGHT + ballast[bucket];
        }

        int weight(int bucket) {
            return emptyWeight(bucket) + (filled[bucket] ? heavier : 0);
        }

        /** The depth of a rope's first bucket behind an hour in which these of its ends pull. */
        int depthBehind(int r, boolean firstPulls, boolean secondPulls) {
            int lean = weight(2 * r) - weight(2 * r + 1);
            return depthFrom(r, depth[r], lean + pullLean(r, firstPulls, secondPulls));
        }

        /** By how much pulls make the first bucket go down more than the second. */
        int pullLean(int r, boolean firstPulls, boolean secondPulls) {
            int lean = secondPulls ? strength[end[2 * r + 1]] : 0;
            return firstPulls ? lean - strength[end[2 * r]] : lean;
        }

        /** The depth of a rope's first bucket behind an hour in which it goes down so much more. */
        int depthFrom(int r, int from, int lean) {
            int way = Math.abs(lean) >= fly ? length[r] : 1;
            if (lean > 0) {
                return Math.min(from + way, length[r]);
            }
            return lean < 0 ? Math.max(from - way, 0) : from;
        }

        int restBits() {
            int bits = 0;
            for (int r = 0; r < ropes; r++) {
                if (severed[r] || depthBehind(r, false, false) == depth[r]) {
                    bits |= 1 << r;
                }
            }
            return bits;
        }

        /** An hour in which each house pulls the rope that stands at it: how many were drunk. */
        int goOn(int[] pulls) {
            for (int r = 0; r < ropes; r++) {
                if (!severed[r]) {
                    depth[r] = depthBehind(r, pulls[end[2 * r]] == r, pulls[end[2 * r + 1]] == r);
                }
            }
            fill();
            int drunk = drink();
            if (hour < LAST_HOUR) {
                hour++;
            }
            return drunk;
        }

        private void fill() {
            for (int bucket = 0; bucket < 2 * ropes; bucket++) {
                int h = end[bucket];
                if (!severed[bucket / 2] && !filled[bucket] && stock[h] > 0
                        && depthOf(bucket) >= level[h]) {
                    filled[bucket] = true;
                    stock[h]--;
                }
            }
        }

        private int drink() {
            int drunk = 0;
            for (int bucket = 0; bucket < 2 * ropes; bucket++) {
                int h = end[bucket];
                if (!severed[bucket / 2] && filled[bucket] && depthOf(bucket) == 0) {
                    filled[bucket] = false;
                    drunk++;
                    if (thirstsNow(h)) {
                        quenched[h]++;
                    } else {
                        wasted[h]++;
                    }
                }
            }
            return drunk;
        }
    }

    /** The bytes that were fed, and their reading as a land, token by token, up to a fault. */
    private static final class Tape {
        private static final int AT_END = 0;
        private static final int WORD = 1;
        private static final int NUMBER = 2;
        private static final int SEMICOLON = 3;
        private static final int NO_TOKEN = 4;

        private static final int STRANGE = 1;
        private static final int MISPLACED = 2;
        private static final int OUT_OF_BOUNDS = 3;
        private static final int ONE_TOO_MANY = 4;

        private static final int MOST_DIGITS = 4;

        int taped;
        int faultKind;
        int faultPlace = NONE;
        private final byte[] bytes = new byte[MOST_BYTES];
        private int size;
        private int kind;
        private int start;
        private int behind;
        private int value;

        void addInt(int v) {
            for (int shift = 24; shift >= 0 && taped < MOST_BYTES; shift -= 8) {
                bytes[taped] = (byte) (v >>> shift);
                taped++;
            }
        }

        /** Reads the first n bytes; the tape is empty behind it. */
        void readText(int n, Land land) {
            faultKind = 0;
            faultPlace = NONE;
            size = Math.min(n, MOST_BYTES);
            taped = 0;
            behind = 0;
            land.begin();
            advance();
            for (int i = 0; i <= size && kind != AT_END && faultKind == 0; i++) {
                readLine(land);
            }
        }

        private void readLine(Land land) {
            if (isWord("house")) {
                readHouse(land);
            } else if (isWord("rope")) {
                readRope(land);
            } else if (isWord("full")) {
                advance();
                land.heavier = takeNumber(1, 9);
            } else if (isWord("fly")) {
                advance();
                land.fly = takeNumber(1, 40);
            } else {
                tellWrongToken();
            }
            takeSemicolon();
            land.lines++;
        }

        private void readHouse(Land land) {
            int h = land.houses;
            if (h >= MOST_HOUSES) {
                tellFault(ONE_TOO_MANY);
                return;
            }
            advance();
            land.addHouse(takeNumber(0, 20));
            if (takeWord("level")) {
                land.level[h] = takeNumber(1, 9);
            }
            if (takeWord("stock")) {
                land.stock[h] = takeNumber(0, 99);
            }
            if (takeWord("thirst")) {
                land.thirst[h] = takeNumber(0, 4095);
            }
        }

        private void readRope(Land land) {
            int r = land.ropes;
            if (r >= MOST_ROPES) {
                tellFault(ONE_TOO_MANY);
                return;
            }
            advance();
            int first = takeNumber(0, land.houses - 1);
            if (kind == NUMBER && value == first) {
                tellFault(OUT_OF_BOUNDS);
            }
            int second = takeNumber(0, land.houses - 1);
            if (!takeWord("long")) {
                tellWrongToken();
            }
            int length = takeNumber(2, 9);
            if (faultKind != 0) {
                return;
            }
            land.addRope(first, second, length);
            if (takeWord("at")) {
                land.depth[r] = takeNumber(0, length);
            }
            if (takeWord("stones")) {
                land.ballast[2 * r] = takeNumber(0, MOST_STONES);
                land.ballast[2 * r + 1] = takeNumber(0, MOST_STONES);
            }
        }

        private void tellWrongToken() {
            tellFault(kind == NO_TOKEN ? STRANGE : MISPLACED);
        }

        /** Only the first fault counts: what is read behind it is not used. */
        private void tellFault(int itsKind) {
            if (faultKind == 0) {
                faultKind = itsKind;
                faultPlace = start;
            }
        }

        private int takeNumber(int least, int most) {
            if (kind != NUMBER) {
                tellWrongToken();
                return least;
            }
            if (value < least || value > most) {
                tellFault(OUT_OF_BOUNDS);
                return least;
            }
            int taken = value;
            advance();
            return taken;
        }

        private void takeSemicolon() {
            if (kind != SEMICOLON) {
                tellWrongToken();
                return;
            }
            advance();
        }

        private boolean takeWord(String word) {
            if (!isWord(word)) {
                return false;
            }
            advance();
            return true;
        }

        private boolean isWord(String word) {
            if (kind != WORD || behind - start != word.length()) {
                return false;
            }
            for (int i = 0; i < word.length(); i++) {
                if (byteAt(start + i) != word.charAt(i)) {
                    return false;
                }
            }
            return true;
        }

        private void advance() {
            start = behind;
            while (start < size && isBlank(byteAt(start))) {
                start++;
            }
            behind = start;
            if (start >= size) {
                kind = AT_END;
            } else if (isLetter(byteAt(start))) {
                takeLetters();
            } else if (isDigit(byteAt(start))) {
                takeDigits();
            } else {
                kind = byteAt(start) == ';' ? SEMICOLON : NO_TOKEN;
                behind = start + 1;
            }
        }

        private void takeLetters() {
            kind = WORD;
            while (behind < size && isLetter(byteAt(behind))) {
                behind++;
            }
        }

        private void takeDigits() {
            value = 0;
            while (behind < size && isDigit(byteAt(behind))) {
                if (behind - start < MOST_DIGITS) {
                    value = 10 * value + byteAt(behind) - '0';
                }
                behind++;
            }
            kind = behind - start > MOST_DIGITS ? NO_TOKEN : NUMBER;
        }

        /** The byte there, NONE (which is no sign of any token) where there is none. */
        private int byteAt(int place) {
            return place >= 0 && place < size ? bytes[place] & 255 : NONE;
        }

        private static boolean isBlank(int sign) {
            return sign == 10 || sign == 32;
        }

        private static boolean isLetter(int sign) {
            return sign >= 'a' && sign <= 'z';
        }

        private static boolean isDigit(int sign) {
            return sign >= '0' && sign <= '9';
        }
    }

    /** A row of numbers of one sort, or a missing one. */
    private static final class NumberRow {
        int size;
        private int sort = NONE;
        private final long[] number = new long[MOST_NUMBERS];

        boolean isMissing() {
            return sort == NONE;
        }

        void begin(int itsSort, int n) {
            sort = itsSort;
            size = Math.max(0, Math.min(n, MOST_NUMBERS));
            Arrays.fill(number, 0L);
        }

        long get(int i) {
            return i >= 0 && i < size ? number[i] : 0;
        }

        long put(int i, long v) {
            if (i < 0 || i >= size) {
                return 0;
            }
            number[i] = cutToSort(v);
            return number[i];
        }

        private long cutToSort(long v) {
            switch (sort) {
                case 0:
                    return (byte) v;
                case 1:
                    return (short) v;
                case 2:
                    return (int) v;
                default:
                    return v;
            }
        }
    }

    /** Hours that are done one behind the other in a land, and what is counted in them. */
    private static final class Tally {
        private static final int NO_SUCH_PULL = 1;
        private static final int PULLS_ALREADY = 2;
        private static final int TOO_LATE = 3;

        int place;
        int why;
        int hours;
        int drunk;
        int pullCount;
        int bothCount;
        private final int[] pulls = new int[MOST_HOUSES];
        private int pending;

        private void begin() {
            place = NONE;
            why = 0;
            hours = 0;
            drunk = 0;
            pullCount = 0;
            bothCount = 0;
            clearPulls();
        }

        private void clearPulls() {
            Arrays.fill(pulls, NONE);
            pending = 0;
        }

        private void addPull(int h, int r) {
            pulls[h] = r;
            pending++;
        }

        /** An hour in which one house alone pulls, or none. */
        void doHour(Land land, int h, int r) {
            begin();
            if (land.hasHouse(h)) {
                addPull(h, r);
            }
            endHour(land);
        }

        private void endHour(Land land) {
            drunk += land.goOn(pulls);
            hours++;
            pullCount += pending;
            clearPulls();
        }

        /** Does the hours that a row tells, as far as they can be done. */
        void doTold(Land land, NumberRow row) {
            begin();
            for (int i = 0; i <= row.size && why == 0; i++) {
                // The row's end closes an hour just as the sign between hours does.
                long told = i < row.size ? row.get(i) : HOUR_SIGN;
                why = told == HOUR_SIGN ? tellHourEnd(land) : tellPull(land, told);
                if (why != 0) {
                    place = i;
                }
            }
        }

        private int tellHourEnd(Land land) {
            if (land.hour >= LAST_HOUR) {
                return TOO_LATE;
            }
            endHour(land);
            return 0;
        }

        private int tellPull(Land land, long told) {
            if (told < 0 || told >= PULL_BASE * MOST_HOUSES) {
                return NO_SUCH_PULL;
            }
            int h = (int) told / PULL_BASE;
            int r = (int) told % PULL_BASE;
            if (!land.hangsOpen(r, h)) {
                return NO_SUCH_PULL;
            }
            if (pulls[h] != NONE) {
                return PULLS_ALREADY;
            }
            addPull(h, r);
            return 0;
        }

        void doCustom(Land land, int n) {
            begin();
            for (int i = 0; i < n; i++) {
                for (int h = 0; h < land.houses; h++) {
                    int r = land.thirstsNow(h) ? firstToLift(land, h) : NONE;
                    if (r != NONE) {
                        addPull(h, r);
                    }
                }
                countBoth(land);
                endHour(land);
            }
        }

        private static int firstToLift(Land land, int h) {
            for (int r = 0; r < land.ropes; r++) {
                int bucket = land.end[2 * r] == h ? 2 * r : 2 * r + 1;
                if (land.hangsOpen(r, h) && land.depthOf(bucket) != 0) {
                    return r;
                }
            }
            return NONE;
        }

        private void countBoth(Land land) {
            for (int r = 0; r < land.ropes; r++) {
                if (pulls[land.end[2 * r]] == r && pulls[land.end[2 * r + 1]] == r) {
                    bothCount++;
                }
            }
        }

        void doDrawn(Land land, int seed, int n) {
            begin();
            int x = seed;
            for (int i = 0; i < n; i++) {
                for (int h = 0; h < land.houses; h++) {
                    x = 1103515245 * x + 12345;
                    int nth = (x >>> 16) % (land.openCount(h) + 1);
                    if (nth > 0) {
                        addPull(h, land.openRope(h, nth));
                    }
                }
                endHour(land);
            }
        }
    }

    /** Which houses have ropes in common that aren't cut, as sets of bits. */
    private static final class Ties {
        private final int[] near = new int[MOST_HOUSES];
        private int houses;

        /** Looks at a land as if one more rope (or none) were cut. */
        void look(Land land, int without) {
            houses = land.houses;
            Arrays.fill(near, 0);
            for (int r = 0; r < land.ropes; r++) {
                if (!land.severed[r] && r != without) {
                    int first = land.end[2 * r];
                    int second = land.end[2 * r + 1];
                    near[first] |= 1 << second;
                    near[second] |= 1 << first;
                }
            }
        }

        boolean tied(int h, int other) {
            return (near[h] >> other & 1) == 1;
        }

        private int nearAny(int set) {
            int found = 0;
            for (int h = 0; h < houses; h++) {
                if ((set >> h & 1) == 1) {
                    found |= near[h];
                }
            }
            return found;
        }

        /** All houses that hang together with one. */
        int part(int h) {
            int part = 1 << h;
            for (int i = 0; i < houses; i++) {
                part |= nearAny(part);
            }
            return part;
        }

        /** The fewest ropes of a way from a house to another one, or none. */
        int steps(int from, int to) {
            int reached = 1 << from;
            for (int i = 0; i <= houses; i++) {
                if ((reached >> to & 1) == 1) {
                    return i;
                }
                reached |= nearAny(reached);
            }
            return NONE;
        }

        int greatestLoose() {
            int best = 0;
            for (int set = 0; set < 1 << houses; set++) {
                if (Integer.bitCount(set) > Integer.bitCount(best) && (nearAny(set) & set) == 0) {
                    best = set;
                }
            }
            return best;
        }

        /** One side of each part, that of its least house, if no rope has both ends on a side. */
        int oneSide() {
            int sides = 0;
            int met = 0;
            for (int h = 0; h < houses; h++) {
                if ((met >> h & 1) == 0) {
                    int side = 1 << h;
                    int across = 0;
                    for (int i = 0; i < houses; i++) {
                        across |= nearAny(side);
                        side |= nearAny(across);
                    }
                    if ((side & across) != 0) {
                        return NONE;
                    }
                    sides |= side;
                    met |= side | across;
                }
            }
            return sides;
        }
    }

    /** Seeks what a house can have if it alone pulls, over all rows of its pulls. */
    private static final class Lonely {
        int most;
        final int[] bestRow = new int[MOST_ALONE_HOURS];
        private final int[] row = new int[MOST_ALONE_HOURS];
        /** The land behind so many hours of the row that is looked at. */
        private final Land[] behind = new Land[MOST_ALONE_HOURS + 1];
        private final int[] pulls = new int[MOST_HOUSES];
        private int seeker;
        private int hours;

        Lonely() {
            for (int i = 0; i <= MOST_ALONE_HOURS; i++) {
                behind[i] = new Land();
            }
        }

        void seek(Land land, int h, int n) {
            for (int i = 0; i <= MOST_ALONE_HOURS; i++) {
                behind[i].takeAll(land);
            }
            Arrays.fill(pulls, NONE);
            seeker = h;
            hours = n;
            most = NONE;
            seekFrom(0);
        }

        private void seekFrom(int done) {
            Land land = behind[done];
            int gained = land.had(seeker) - behind[0].had(seeker);
            if (done >= hours || done >= MOST_ALONE_HOURS) {
                keepIfMore(gained);
                return;
            }
            if (gained + mostToCome(land, hours - done) <= most) {
                return;
            }
            seekPull(done, NONE);
            for (int r = 0; r < land.ropes; r++) {
                if (land.hangsOpen(r, seeker) && pullMatters(land, r)) {
                    seekPull(done, r);
                }
            }
        }

        private void seekPull(int done, int r) {
            row[done] = r;
            pulls[seeker] = r;
            behind[done + 1].takeMoved(behind[done]);
            behind[done + 1].goOn(pulls);
            seekFrom(done + 1);
        }

        private void keepIfMore(int gained) {
            if (gained > most) {
                most = gained;
                System.arraycopy(row, 0, bestRow, 0, MOST_ALONE_HOURS);
            }
        }

        /** A pull that moves nothing is no better than none, which is ahead of it. */
        private boolean pullMatters(Land land, int r) {
            boolean isFirst = land.end[2 * r] == seeker;
            return land.depthBehind(r, isFirst, !isFirst) != land.depthBehind(r, false, false);
        }

        /**
         * No more than this can come: a bucket that was drunk takes an hour at least to sink and
         * fill, and another one to rise, and each filling takes from the stock.
         */
        private int mostToCome(Land land, int left) {
            int byTime = 0;
            int byWater = land.stock[seeker];
            for (int bucket = 0; bucket < 2 * land.ropes; bucket++) {
                if (land.end[bucket] == seeker && !land.severed[bucket / 2]) {
                    int full = land.filled[bucket] ? 1 : 0;
                    byTime += (left + full) / 2;
                    byWater += full;
                }
            }
            return Math.min(byTime, byWater);
        }
    }

    /** Seeks who should live where, over all orders of those who thirst. */
    private static final class Homes {
        int leastClash;
        int fewestMoved;
        final int[] bestOrder = new int[MOST_DWELLERS];
        private final int[] order = new int[MOST_DWELLERS];
        private final int[][] common = new int[MOST_DWELLERS][MOST_DWELLERS];
        private int houses;

        void settle(Land land) {
            houses = Math.min(land.houses, MOST_DWELLERS);
            countRopes(land);
            leastClash = DAY * MOST_ROPES + 1;
            fewestMoved = 0;
            place(land, 0, 0, 0, 0);
        }

        private void countRopes(Land land) {
            for (int h = 0; h < houses; h++) {
                Arrays.fill(common[h], 0);
            }
            for (int r = 0; r < land.ropes; r++) {
                int first = land.end[2 * r];
                int second = land.end[2 * r + 1];
                if (!land.severed[r] && first < houses && second < houses) {
                    common[first][second]++;
                    common[second][first]++;
                }
            }
        }

        /** Those who are placed so far clash and have moved so much: more can only come to it. */
        private void place(Land land, int h, int taken, int clashing, int moved) {
            if (clashing > leastClash || (clashing == leastClash && moved >= fewestMoved)) {
                return;
            }
            if (h >= houses) {
                leastClash = clashing;
                fewestMoved = moved;
                System.arraycopy(order, 0, bestOrder, 0, MOST_DWELLERS);
                return;
            }
            for (int who = 0; who < houses; who++) {
                if ((taken >> who & 1) == 0) {
                    order[h] = who;
                    int clash = clashing + clashWithPlaced(land, h);
                    place(land, h + 1, taken | 1 << who, clash, who == h ? moved : moved + 1);
                }
            }
        }

        private int clashWithPlaced(Land land, int h) {
            int sum = 0;
            int its = land.thirst[order[h]];
            for (int other = 0; other < h; other++) {
                if (common[h][other] > 0) {
                    sum += common[h][other] * Integer.bitCount(its & land.thirst[order[other]]);
                }
            }
            return sum;
        }
    }

    /** Counts the ways of pulling behind which the first buckets hang as they were seen. */
    private static final class Sight {
        int ways;
        int musts;
        /** By rope and who pulls it (1 its first house, 2 its second): whether it was seen so. */
        private final boolean[] fits = new boolean[4 * MOST_ROPES];
        private final int[] pulls = new int[MOST_HOUSES];

        void watch(Land land, NumberRow row) {
            ways = 0;
            musts = (1 << land.houses) - 1;
            Arrays.fill(pulls, NONE);
            if (compare(land, row)) {
                choose(land, 0, 0);
            }
        }

        /** False if a rope that is cut doesn't hang as it was seen. */
        private boolean compare(Land land, NumberRow row) {
            for (int r = 0; r < land.ropes; r++) {
                if (land.severed[r] && land.depth[r] != row.get(r)) {
                    return false;
                }
                for (int who = 0; who < 4; who++) {
                    int then = land.depthBehind(r, (who & 1) != 0, (who & 2) != 0);
                    fits[4 * r + who] = then == row.get(r);
                }
            }
            return true;
        }

        private void choose(Land land, int h, int pullers) {
            if (h >= land.houses || h >= MOST_HOUSES) {
                ways++;
                musts &= pullers;
                return;
            }
            pulls[h] = NONE;
            if (fitsUpTo(land, h)) {
                choose(land, h + 1, pullers);
            }
            for (int r = 0; r < land.ropes; r++) {
                if (land.hangsOpen(r, h)) {
                    pulls[h] = r;
                    if (fitsUpTo(land, h)) {
                        choose(land, h + 1, pullers | 1 << h);
                    }
                }
            }
        }

        /** A rope is looked at as soon as the later one of its houses has chosen. */
        private boolean fitsUpTo(Land land, int h) {
            for (int r = 0; r < land.ropes; r++) {
                int first = land.end[2 * r];
                int second = land.end[2 * r + 1];
                if (!land.severed[r] && Math.max(first, second) == h) {
                    int who = (pulls[first] == r ? 1 : 0) | (pulls[second] == r ? 2 : 0);
                    if (!fits[4 * r + who]) {
                        return false;
                    }
                }
            }
            return true;
        }
    }

    /** States, each once, in the order in which they came, each with the least price it had. */
    private static final class StateSet {
        private static final int SLOT_BITS = 12;
        private static final int SLOTS = 1 << SLOT_BITS;
        private static final long SPREAD = 0x9E3779B97F4A7C15L;

        int size;
        /** One more than are allowed: which ones are beyond does not matter any more. */
        final long[] state = new long[MOST_STATES + 1];
        final int[] price = new int[MOST_STATES + 1];
        /** The place of a state, and 1; 0 where none is. */
        private final int[] slot = new int[SLOTS];

        void clear() {
            size = 0;
            Arrays.fill(slot, 0);
        }

        boolean overflows() {
            return size > MOST_STATES;
        }

        void add(long its, int itsPrice) {
            int at = (int) (its * SPREAD >>> 64 - SLOT_BITS);
            for (int i = 0; i < SLOTS && slot[at] != 0; i++) {
                int place = slot[at] - 1;
                if (state[place] == its) {
                    price[place] = Math.min(price[place], itsPrice);
                    return;
                }
                at = at + 1 & SLOTS - 1;
            }
            if (!overflows()) {
                state[size] = its;
                price[size] = itsPrice;
                size++;
                slot[at] = size;
            }
        }
    }

    /** Seeks over all that can be, hour by hour, in a land with few houses and open ropes. */
    private static final class Search {
        /** Four houses and three ropes have 36 ways to pull at most. */
        private static final int MOST_CHOICES = 40;
        // A state as bits: depths, full buckets, stocks, how many the house has more.
        private static final int DEPTH_BITS = 4;
        private static final int FILLED_AT = DEPTH_BITS * MOST_SEARCH_ROPES;
        private static final int STOCK_AT = FILLED_AT + 2 * MOST_SEARCH_ROPES;
        private static final int STOCK_BITS = 7;
        private static final int GAIN_AT = STOCK_AT + STOCK_BITS * MOST_SEARCH_HOUSES;

        private StateSet met = new StateSet();
        private StateSet next = new StateSet();
        private final int[] ropeAt = new int[MOST_SEARCH_ROPES];
        private int open;
        /** Who pulls each rope, two bits a rope: 1 its first house, 2 its second. */
        private final int[] choice = new int[MOST_CHOICES];
        private final int[] choicePulls = new int[MOST_CHOICES];
        private int choices;
        /** Of the state that is looked at, by rope and who pulls it: the depth behind the hour. */
        private final int[] depthThen = new int[4 * MOST_SEARCH_ROPES];
        /** Likewise: the least who of the same depth. */
        private final int[] likeWho = new int[4 * MOST_SEARCH_ROPES];
        private final int[] stock = new int[MOST_SEARCH_HOUSES];
        private final Land land;
        private int seeker;
        private int goal;
        private int fewest;

        Search(Land its) {
            land = its;
        }

        /** The fewest hours behind which a house has n more, if a rope (or none) were cut. */
        int fewestHours(int h, int n, int without) {
            if (!prepare(h, n, without)) {
                return TOO_MANY;
            }
            met.clear();
            met.add(stateNow(), 0);
            int from = 0;
            for (int hours = 1; hours <= MOST_STATES + 1; hours++) {
                int to = met.size;
                fewest = NONE;
                for (int i = from; i < to && fewest == NONE; i++) {
                    spread(met.state[i], 0, met);
                }
                if (fewest != NONE) {
                    return hours;
                }
                if (met.overflows()) {
                    return TOO_MANY;
                }
                if (met.size == to) {
                    return NONE;
                }
                from = to;
            }
            return NONE;
        }

        /** The fewest pulls by which a house has one more within m hours. */
        int fewestPulls(int h, int m) {
            if (!prepare(h, 1, NONE)) {
                return TOO_MANY;
            }
            met.clear();
            met.add(stateNow(), 0);
            fewest = NONE;
            for (int hours = 1; hours <= m; hours++) {
                next.clear();
                for (int i = 0; i < met.size; i++) {
                    spread(met.state[i], met.price[i], next);
                }
                if (hours < m && next.overflows()) {
                    return TOO_MANY;
                }
                StateSet last = met;
                met = next;
                next = last;
            }
            return fewest;
        }

        private boolean prepare(int h, int n, int without) {
            seeker = h;
            goal = n;
            open = 0;
            for (int r = 0; r < land.ropes; r++) {
                if (!land.severed[r] && r != without) {
                    if (open >= MOST_SEARCH_ROPES) {
                        return false;
                    }
                    ropeAt[open] = r;
                    open++;
                }
            }
            if (land.houses > MOST_SEARCH_HOUSES) {
                return false;
            }
            listChoices();
            return true;
        }

        /** Choices with fewer pulls come first, so that of like ones the first is cheapest. */
        private void listChoices() {
            choices = 0;
            for (int pullCount = 0; pullCount <= land.houses; pullCount++) {
                listFrom(0, 0, pullCount);
            }
        }

        private void listFrom(int h, int who, int pullsLeft) {
            if (h >= land.houses) {
                if (pullsLeft == 0 && choices < MOST_CHOICES) {
                    choice[choices] = who;
                    choicePulls[choices] = Integer.bitCount(who);
                    choices++;
                }
                return;
            }
            listFrom(h + 1, who, pullsLeft);
            for (int k = 0; k < open && pullsLeft > 0; k++) {
                for (int side = 0; side < 2; side++) {
                    if (land.end[2 * ropeAt[k] + side] == h) {
                        listFrom(h + 1, who | 1 << 2 * k + side, pullsLeft - 1);
                    }
                }
            }
        }

        private long stateNow() {
            long bits = 0;
            for (int k = 0; k < open; k++) {
                int r = ropeAt[k];
                bits |= (long) land.depth[r] << DEPTH_BITS * k;
                bits |= land.filled[2 * r] ? 1L << FILLED_AT + 2 * k : 0;
                bits |= land.filled[2 * r + 1] ? 1L << FILLED_AT + 2 * k + 1 : 0;
            }
            for (int h = 0; h < land.houses; h++) {
                bits |= (long) land.stock[h] << STOCK_AT + STOCK_BITS * h;
            }
            return bits;
        }

        /** All states behind an hour: those at the goal go into fewest, others into a set. */
        private void spread(long from, int price, StateSet into) {
            lookAhead(from);
            long tried = 0;
            for (int c = 0; c < choices; c++) {
                int who = likeChoice(choice[c]);
                if ((tried >>> who & 1) == 0) {
                    tried |= 1L << who;
                    int cost = price + choicePulls[c];
                    long then = behindHour(from, who);
                    if ((int) (then >>> GAIN_AT) < goal) {
                        into.add(then, cost);
                    } else if (fewest == NONE || cost < fewest) {
                        fewest = cost;
                    }
                }
            }
        }

        private void lookAhead(long from) {
            for (int k = 0; k < open; k++) {
                int r = ropeAt[k];
                int depth = (int) (from >>> DEPTH_BITS * k) & 15;
                int lean = weightIn(from, k, 0) - weightIn(from, k, 1);
                for (int who = 0; who < 4; who++) {
                    int more = land.pullLean(r, (who & 1) != 0, (who & 2) != 0);
                    depthThen[4 * k + who] = land.depthFrom(r, depth, lean + more);
                    likeWho[4 * k + who] = firstLike(k, who);
                }
            }
        }

        private int weightIn(long from, int k, int side) {
            boolean full = (from >>> FILLED_AT + 2 * k + side & 1) == 1;
            return land.emptyWeight(2 * ropeAt[k] + side) + (full ? land.heavier : 0);
        }

        private int firstLike(int k, int who) {
            int like = who;
            for (int other = who - 1; other >= 0; other--) {
                if (depthThen[4 * k + other] == depthThen[4 * k + who]) {
                    like = other;
                }
            }
            return like;
        }

        /** Choices behind which all ropes hang alike become one. */
        private int likeChoice(int who) {
            int like = 0;
            for (int k = 0; k < open; k++) {
                like |= likeWho[4 * k + (who >> 2 * k & 3)] << 2 * k;
            }
            return like;
        }

        private long behindHour(long from, int who) {
            for (int h = 0; h < land.houses; h++) {
                stock[h] = (int) (from >>> STOCK_AT + STOCK_BITS * h) & 127;
            }
            int filled = (int) (from >>> FILLED_AT) & 63;
            int gain = (int) (from >>> GAIN_AT);
            long then = 0;
            for (int k = 0; k < open; k++) {
                int depth = depthThen[4 * k + (who >> 2 * k & 3)];
                then |= (long) depth << DEPTH_BITS * k;
                for (int side = 0; side < 2; side++) {
                    int h = land.end[2 * ropeAt[k] + side];
                    int bit = 1 << 2 * k + side;
                    int its = side == 0 ? depth : land.length[ropeAt[k]] - depth;
                    if ((filled & bit) == 0 && its >= land.level[h] && stock[h] > 0) {
                        filled |= bit;
                        stock[h]--;
                    } else if ((filled & bit) != 0 && its == 0) {
                        filled &= ~bit;
                        gain = h == seeker ? Math.min(gain + 1, goal) : gain;
                    }
                }
            }
            for (int h = 0; h < land.houses; h++) {
                then |= (long) stock[h] << STOCK_AT + STOCK_BITS * h;
            }
            return then | (long) filled << FILLED_AT | (long) gain << GAIN_AT;
        }
    }
}
