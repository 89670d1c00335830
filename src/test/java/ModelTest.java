import java.util.ArrayList;
import java.util.Arrays;
import java.util.HashMap;
import java.util.HashSet;
import java.util.List;
import java.util.Map;
import java.util.Random;
import java.util.Set;
import java.util.TreeMap;

/**
 * Drives TwoWells and a slow model, written anew from the document with the Java library, by the
 * same drawn calls, and compares all answers. The draws are always the same ones.
 */
public final class ModelTest {
    private static int wrong = 0;
    private static final Map<String, Integer> ANSWERED = new TreeMap<>();

    public static void main(String[] args) {
        int runs = args.length > 0 ? Integer.parseInt(args[0]) : 800;
        int from = args.length > 1 ? Integer.parseInt(args[1]) : 0;
        for (int run = from; run < from + runs && wrong < 5; run++) {
            new Run(run).go();
        }
        for (int seed = from; seed < from + 40 * runs && wrong < 5; seed++) {
            readSpoiled(seed);
        }
        for (int seed = from; seed < from + runs / 5 && wrong < 5; seed++) {
            new Run(seed).seekMuch();
        }
        demandVariety();
        System.out.println(wrong == 0 ? "model and class agree" : wrong + " answers differ");
        if (wrong != 0) {
            System.exit(1);
        }
    }

    private static void compare(int run, List<String> log, String call, long got, long want) {
        log.add(call + " = " + want);
        String name = call.substring(0, call.indexOf('('));
        String kind = want < 0 ? String.valueOf(want) : want == 0 ? "0" : "more";
        ANSWERED.merge(name + " " + kind, 1, Integer::sum);
        if (got != want) {
            wrong++;
            System.out.println("run " + run + ": " + call + " answered " + got + ", due is " + want);
            for (String s : log) {
                System.out.println("    " + s);
            }
        }
    }

    /** The draws are worth nothing if calls are only ever refused or answer by 0. */
    private static void demandVariety() {
        String[] names = {
            "land", "house", "rope", "pass", "pull", "judge", "perform", "custom", "live", "drought",
            "stones", "rests", "calm", "even", "lifts", "together", "parted", "ring", "neighbours",
            "severs", "soonest", "loss", "cheapest", "alone", "mate", "dwellings", "clash", "seen",
            "pulled", "write", "copy", "count", "soonest -4", "soonest -1", "cheapest -4",
            "cheapest -1", "loss -4", "loss -5", "loss -1", "parted -1", "ring -1", "alone -4",
            "alone -7", "seen -4", "seen -7", "dwellings -4", "pass -5", "live -5", "drought -5",
            "custom -5", "pull -5", "land -31", "land -32", "land -33", "land -34",
        };
        for (String n : names) {
            String key = n.indexOf(' ') >= 0 ? n : n + " more";
            if (ANSWERED.getOrDefault(key, 0) < 5) {
                wrong++;
                System.out.println("too seldom in the draws: " + key + " " + ANSWERED.get(key));
            }
        }
    }

    // ---- texts

    private static String landText(Random d) {
        return landText(d, d.nextInt(4) == 0 ? d.nextInt(11) : 2 + d.nextInt(3),
                d.nextInt(4) == 0 ? d.nextInt(17) : 1 + d.nextInt(4));
    }

    private static String landText(Random d, int houses, int ropes) {
        int maxStrength = 1 + d.nextInt(20);
        int maxStock = d.nextBoolean() ? 3 : 99;
        int maxLevel = 1 + d.nextInt(4);
        int maxLength = 2 + d.nextInt(8);
        StringBuilder sb = new StringBuilder();
        if (d.nextInt(3) == 0) {
            sb.append("full ").append(1 + d.nextInt(9)).append(";");
        }
        if (d.nextInt(2) == 0) {
            sb.append("fly ").append(1 + d.nextInt(40)).append(" ; ");
        }
        for (int h = 0; h < houses; h++) {
            sb.append("house ").append(d.nextInt(maxStrength + 1));
            if (d.nextInt(4) > 0) {
                sb.append(" level ").append(1 + d.nextInt(maxLevel));
            }
            if (d.nextInt(2) == 0) {
                sb.append(" stock ").append(d.nextInt(maxStock + 1));
            }
            if (d.nextInt(4) > 0) {
                sb.append(" thirst ").append(d.nextInt(4096));
            }
            sb.append(";");
        }
        for (int r = 0; r < ropes && houses > 1; r++) {
            int a = d.nextInt(houses);
            int b = (a + 1 + d.nextInt(houses - 1)) % houses;
            int len = 2 + d.nextInt(maxLength - 1);
            sb.append("rope ").append(a).append(' ').append(b).append(" long ").append(len);
            if (d.nextInt(2) == 0) {
                sb.append(" at ").append(d.nextInt(len + 1));
            }
            if (d.nextInt(2) == 0) {
                sb.append(" stones ").append(d.nextInt(10)).append(' ').append(d.nextInt(10));
            }
            sb.append(d.nextInt(3) == 0 ? ";\n" : ";");
        }
        return sb.length() > 900 ? sb.substring(0, sb.lastIndexOf(";", 899) + 1) : sb.toString();
    }

    private static String spoil(Random d, String text) {
        String[] bits = {
            "house", "rope", "level", "stock", "thirst", "long", "at", "stones", "full", "fly", ";",
            " ", "\n", "0", "1", "9", "10", "21", "99", "100", "4095", "4096", "9999", "00005",
            "12345", "x", "House", "-1", ",", "\t", "\u00e9", "\u0000", "house 1;", "rope 0 1 long 2;",
        };
        StringBuilder sb = new StringBuilder(text);
        int times = 1 + d.nextInt(3);
        for (int i = 0; i < times; i++) {
            int at = d.nextInt(sb.length() + 1);
            int gone = Math.min(sb.length() - at, d.nextInt(3) == 0 ? d.nextInt(8) : 0);
            sb.replace(at, at + gone, d.nextInt(5) == 0 ? "" : bits[d.nextInt(bits.length)]);
        }
        return sb.length() > 900 ? sb.substring(0, 900) : sb.toString();
    }

    private static void readSpoiled(int seed) {
        Random d = new Random(seed * 31L + 5);
        boolean many = d.nextInt(20) == 0;
        String text = spoil(d, many ? landText(d, 8 + d.nextInt(4), 14 + d.nextInt(4)) : landText(d));
        TwoWells x = new TwoWells();
        Model m = new Model();
        List<String> log = new ArrayList<>();
        log.add(text);
        Calls.feed(x, text);
        m.feedText(text);
        int n = text.length();
        compare(seed, log, "land(" + n + ")", x.land(n), m.land(n));
        compare(seed, log, "fault(0)", x.fault(0), m.faultKind);
        compare(seed, log, "fault(1)", x.fault(1), m.faultPlace);
        for (int what = 0; what < 9; what++) {
            compare(seed, log, "count(" + what + ")", x.count(what), m.count(what));
        }
    }

    /** Lands at the bounds of what is sought, found by trying: SoughtEdges has their answers, too. */
    private static final String[] MANY_STATES = {
        "full 1;house 14 level 1;house 7 level 1;house 11 level 1;house 6 level 2;rope 1 0 long 6 at 6;"
            + "rope 3 0 long 4;rope 0 2 long 9;",
        "fly 13;full 1;house 15 level 2;house 18 level 1;house 8 level 1;house 6 level 1;"
            + "rope 3 1 long 6 at 6 stones 1 0;rope 0 2 long 5 at 3;rope 0 1 long 4 at 1;",
        "fly 9;full 1;house 18 level 2;house 11 level 1;house 9 level 2;house 15 level 2;"
            + "rope 1 2 long 8 at 7;rope 1 3 long 8 at 4;rope 3 0 long 5 at 3;",
        "full 2;house 16 level 1;house 6 level 1;house 6 level 2;house 9 level 1;rope 1 2 long 6 at 2;"
            + "rope 0 3 long 9 at 6;rope 3 1 long 8 at 3;",
        "house 9 level 1;house 1;house 9 level 1;house 9 level 1;rope 0 1 long 2;rope 2 3 long 9;"
            + "rope 3 2 long 9;",
        "fly 3;house 6 level 2;house 12 level 2;rope 0 1 long 4;",
        "fly 11;full 1;house 14 level 1 stock 50;house 16 level 1 stock 91;house 9 level 1 stock 30;"
            + "house 17 level 2 stock 38;rope 3 0 long 5 at 0 stones 3 1;"
            + "rope 0 2 long 7 at 3 stones 2 0;rope 2 1 long 6 at 0 stones 1 2;",
        "fly 10;full 1;house 12 level 2 stock 66;house 5 level 1 stock 4;house 18 level 2 stock 51;"
            + "house 17 level 1 stock 46;rope 0 3 long 8 at 2 stones 3 2;"
            + "rope 2 1 long 9 at 4 stones 0 3;rope 0 3 long 9 at 1 stones 3 1;",
    };

    /** One object's run of calls. */
    private static final class Run {
        final int run;
        final Random d;
        final TwoWells x = new TwoWells();
        final Model m = new Model();
        final List<String> log = new ArrayList<>();

        Run(int run) {
            this.run = run;
            this.d = new Random(run * 7919L + 3);
        }

        void go() {
            newLand();
            if (d.nextInt(10) == 0) {
                for (int i = 0; i < 101; i++) {
                    due("live(99)", x.live(99), m.live(99));
                }
            }
            for (int i = 0; i < 150 && wrong < 5; i++) {
                one(d.nextInt(41));
                if (d.nextInt(6) == 0) {
                    lookAtAll();
                }
            }
        }

        void due(String call, long got, long want) {
            compare(run, log, call, got, want);
        }

        /** A small land in which much can be reached, and all that can be sought in it. */
        void seekMuch() {
            StringBuilder sb = new StringBuilder();
            int n = 3 + d.nextInt(2);
            sb.append("fly ").append(4 + d.nextInt(12)).append(";");
            for (int h = 0; h < n; h++) {
                sb.append("house ").append(1 + d.nextInt(10)).append(" level ").append(1 + d.nextInt(2))
                        .append(" stock ").append(d.nextInt(4)).append(";");
            }
            for (int r = 0; r < 3; r++) {
                int a = d.nextInt(n);
                int length = 2 + d.nextInt(3);
                sb.append("rope ").append(a).append(' ').append((a + 1 + d.nextInt(n - 1)) % n)
                        .append(" long ").append(length).append(" at ").append(d.nextInt(length + 1))
                        .append(" stones ").append(d.nextInt(5)).append(' ').append(d.nextInt(5))
                        .append(";");
            }
            read(run < MANY_STATES.length ? MANY_STATES[run] : sb.toString());
            if (d.nextInt(3) == 0 && run >= MANY_STATES.length) {
                int seed = d.nextInt();
                call("drought", seed, 3, () -> x.drought(seed, 3), () -> m.drought(seed, 3));
            }
            for (int i = 0; i < m.houses.size(); i++) {
                int h = i;
                for (int k = 1; k <= 6; k++) {
                    int few = k;
                    call("cheapest", h, k, () -> x.cheapest(h, few), () -> m.cheapest(h, few));
                    call("soonest", h, k, () -> x.soonest(h, few), () -> m.soonest(h, few));
                    call("alone", h, k, 0, () -> x.alone(h, few, 0), () -> m.alone(h, few, 0));
                    call("alone", h, k, 9 + k, () -> x.alone(h, few, 9 + few),
                            () -> m.alone(h, few, 9 + few));
                }
                for (int k = 0; k < 3; k++) {
                    int r = k;
                    call("loss", h, r, () -> x.loss(h, r), () -> m.loss(h, r));
                }
            }
        }

        void newLand() {
            read(landText(d));
        }

        void read(String text) {
            Calls.feed(x, text);
            m.feedText(text);
            int n = text.length();
            log.add(text);
            due("land(" + n + ")", x.land(n), m.land(n));
        }

        void lookAtAll() {
            for (int what = 0; what < 9; what++) {
                due("count(" + what + ")", x.count(what), m.count(what));
            }
            for (int h = 0; h < m.houses.size(); h++) {
                for (int what = 0; what < 8; what++) {
                    due("house(" + h + ", " + what + ")", x.house(h, what), m.house(h, what));
                }
            }
            for (int r = 0; r < m.ropes.size(); r++) {
                for (int what = 0; what < 10; what++) {
                    due("rope(" + r + ", " + what + ")", x.rope(r, what), m.rope(r, what));
                }
            }
        }

        int house() {
            return d.nextInt(12) == 0 ? d.nextInt(14) - 2 : d.nextInt(Math.max(1, m.houses.size()));
        }

        int rope() {
            return d.nextInt(12) == 0 ? d.nextInt(20) - 2 : d.nextInt(Math.max(1, m.ropes.size()));
        }

        int ropeOf(int h) {
            List<Integer> its = m.ropesOf(h);
            return its.isEmpty() || d.nextInt(8) == 0 ? rope() : its.get(d.nextInt(its.size()));
        }

        int row() {
            return d.nextInt(15) == 0 ? d.nextInt(7) - 1 : d.nextInt(2);
        }

        void tellRow() {
            int row = row();
            int sort = d.nextInt(12) == 0 ? d.nextInt(6) - 1 : 1 + d.nextInt(3);
            int n = d.nextInt(12) == 0 ? d.nextInt(70) - 5 : d.nextInt(25);
            call("numbers", row, sort, n, () -> x.numbers(row, sort, n), () -> m.numbers(row, sort, n));
            for (int i = 0; i < n; i++) {
                long v = -1;
                if (d.nextInt(3) > 0) {
                    int h = house();
                    v = 20L * h + ropeOf(h);
                }
                if (d.nextInt(40) == 0) {
                    v = d.nextLong() >> d.nextInt(60);
                }
                write(row, i, v);
            }
        }

        void write(int row, int i, long v) {
            due("write(" + row + ", " + i + ", " + v + ")", x.write(row, i, v), m.write(row, i, v));
        }

        /** Tells depths that may well come, one off for some. */
        void tellSight() {
            int row = row();
            int n = m.ropes.size();
            call("numbers", row, 0, n, () -> x.numbers(row, 0, n), () -> m.numbers(row, 0, n));
            Model then = new Model(m);
            int[] pulls = then.noPulls();
            for (int h = 0; h < pulls.length; h++) {
                int r = ropeOf(h);
                if (d.nextBoolean() && then.ropesOf(h).contains(r) && !then.ropes.get(r).cut) {
                    pulls[h] = r;
                }
            }
            then.hour(pulls);
            for (int r = 0; r < n; r++) {
                write(row, r, then.ropes.get(r).depth[0] + (d.nextInt(30) == 0 ? 1 : 0));
            }
            call("seen", row, () -> x.seen(row), () -> m.seen(row));
            call("pulled", row, () -> x.pulled(row), () -> m.pulled(row));
        }

        interface Answer {
            long get();
        }

        void call(String name, Answer got, Answer want) {
            due(name + "()", got.get(), want.get());
        }

        void call(String name, int a, Answer got, Answer want) {
            due(name + "(" + a + ")", got.get(), want.get());
        }

        void call(String name, int a, int b, Answer got, Answer want) {
            due(name + "(" + a + ", " + b + ")", got.get(), want.get());
        }

        void call(String name, int a, int b, int c, Answer got, Answer want) {
            due(name + "(" + a + ", " + b + ", " + c + ")", got.get(), want.get());
        }

        int pick(int... of) {
            return of[d.nextInt(of.length)];
        }

        void one(int which) {
            int h = house();
            int r = d.nextBoolean() ? ropeOf(h) : rope();
            int row = row();
            int n = d.nextInt(10) == 0 ? d.nextInt(110) - 5 : 1 + d.nextInt(20);
            switch (which) {
                case 0: case 1: case 2:
                    call("pass", x::pass, m::pass);
                    break;
                case 3: case 4: case 5: case 6:
                    call("pull", h, r, () -> x.pull(h, r), () -> m.pull(h, r));
                    break;
                case 7: {
                    tellRow();
                    for (int what = -1; what < 6; what++) {
                        int w = what;
                        call("judge", row, w, () -> x.judge(row, w), () -> m.judge(row, w));
                    }
                    break;
                }
                case 8:
                    tellRow();
                    call("perform", row, () -> x.perform(row), () -> m.perform(row));
                    break;
                case 9: {
                    int w = pick(-1, 0, 1, 2, 3, 4, 9, 10 + h, 10 + h, 20);
                    call("custom", n, w, () -> x.custom(n, w), () -> m.custom(n, w));
                    break;
                }
                case 10:
                    call("live", n, () -> x.live(n), () -> m.live(n));
                    break;
                case 11: {
                    int seed = d.nextInt();
                    call("drought", seed, n, () -> x.drought(seed, n), () -> m.drought(seed, n));
                    break;
                }
                case 12:
                    if (d.nextInt(3) == 0) {
                        call("cut", r, () -> x.cut(r), () -> m.cut(r));
                    }
                    break;
                case 13: {
                    boolean second = d.nextBoolean();
                    int k = d.nextInt(12) - 1;
                    call("stones", r, second ? 1 : 0, k, () -> x.stones(r, second, k),
                            () -> m.stones(r, second, k));
                    break;
                }
                case 14:
                    call("rests", x::rests, m::rests);
                    break;
                case 15:
                    call("calm", x::calm, m::calm);
                    break;
                case 16:
                    call("even", x::even, m::even);
                    break;
                case 17: case 18:
                    call("lifts", h, r, () -> x.lifts(h, r), () -> m.lifts(h, r));
                    break;
                case 19:
                    call("together", x::together, m::together);
                    break;
                case 20:
                    call("parted", x::parted, m::parted);
                    break;
                case 21:
                    call("ring", x::ring, m::ring);
                    break;
                case 22:
                    call("neighbours", h, () -> x.neighbours(h), () -> m.neighbours(h));
                    break;
                case 23:
                    call("severs", r, () -> x.severs(r), () -> m.severs(r));
                    break;
                default:
                    sought(which, h, r);
                    break;
            }
        }

        void sought(int which, int h, int r) {
            int row = row();
            int few = d.nextInt(10) == 0 ? d.nextInt(12) - 2 : 1 + d.nextInt(3);
            int more = d.nextInt(10) == 0 ? d.nextInt(12) - 2 : 1 + d.nextInt(7);
            switch (which) {
                case 24: case 25:
                    call("soonest", h, few, () -> x.soonest(h, few), () -> m.soonest(h, few));
                    break;
                case 26:
                    call("loss", h, r, () -> x.loss(h, r), () -> m.loss(h, r));
                    break;
                case 27:
                    call("cheapest", h, more, () -> x.cheapest(h, more), () -> m.cheapest(h, more));
                    break;
                case 28:
                    if (d.nextInt(3) == 0) {
                        for (int what : new int[] {-1, 0, 1, 9, 10, 11, 12, 13, 14, 15, 16, 17}) {
                            call("alone", h, more, what, () -> x.alone(h, more, what),
                                    () -> m.alone(h, more, what));
                        }
                    }
                    break;
                case 29:
                    call("mate", h, () -> x.mate(h), () -> m.mate(h));
                    break;
                case 30:
                    if (d.nextInt(3) == 0) {
                        for (int what : new int[] {-1, 0, 1, 2, 9, 10, 11, 12, 13, 14, 15, 16, 17, 20}) {
                            call("dwellings", what, () -> x.dwellings(what), () -> m.dwellings(what));
                        }
                    }
                    break;
                case 31:
                    call("clash", r, () -> x.clash(r), () -> m.clash(r));
                    break;
                case 32:
                    call("clash", -1, () -> x.clash(-1), () -> m.clash(-1));
                    break;
                case 33:
                    tellSight();
                    break;
                case 34:
                    call("copy", row, () -> x.copy(row), () -> m.copy(row));
                    call("seen", row, () -> x.seen(row), () -> m.seen(row));
                    call("pulled", row, () -> x.pulled(row), () -> m.pulled(row));
                    break;
                case 35: case 36: {
                    int i = pick(0, 1, 0, 1, 2, -1);
                    call("image", i, () -> x.image(i), () -> m.image(i));
                    break;
                }
                case 37: {
                    int i = pick(0, 1, 0, 1, 2, -1);
                    call("restore", i, () -> x.restore(i), () -> m.restore(i));
                    break;
                }
                case 38: {
                    int what = d.nextInt(12) - 1;
                    call("count", what, () -> x.count(what), () -> m.count(what));
                    call("house", h, what, () -> x.house(h, what), () -> m.house(h, what));
                    call("rope", r, what, () -> x.rope(r, what), () -> m.rope(r, what));
                    break;
                }
                case 39:
                    if (d.nextInt(20) == 0) {
                        newLand();
                    }
                    break;
                default:
                    if (d.nextInt(10) == 0) {
                        int k = d.nextInt(30) - 5;
                        int v = d.nextInt();
                        call("feed", v, () -> x.feed(v, v, v, v, v), () -> m.feed(v, v, v, v, v));
                        call("land", k, () -> x.land(k), () -> m.land(k));
                        call("fault", 0, () -> x.fault(0), () -> m.faultKind);
                        call("fault", 1, () -> x.fault(1), () -> m.faultPlace);
                    }
                    break;
            }
        }
    }

    private static final class House {
        int strength;
        int level = 3;
        int stock = 9;
        int thirst;
        int quenched;
        int wasted;

        House() {
        }

        House(House o) {
            strength = o.strength;
            level = o.level;
            stock = o.stock;
            thirst = o.thirst;
            quenched = o.quenched;
            wasted = o.wasted;
        }
    }

    private static final class Rope {
        int[] end = new int[2];
        int length;
        int[] depth = new int[2];
        int[] stones = new int[2];
        boolean[] full = new boolean[2];
        boolean cut;

        Rope() {
        }

        Rope(Rope o) {
            end = o.end.clone();
            length = o.length;
            depth = o.depth.clone();
            stones = o.stones.clone();
            full = o.full.clone();
            cut = o.cut;
        }
    }

    /** What the document says, with no thought of room or time. */
    private static final class Model {
        List<House> houses = new ArrayList<>();
        List<Rope> ropes = new ArrayList<>();
        int hour;
        int heavy = 5;
        int fly = 8;
        int lines;
        int faultKind;
        int faultPlace = -1;
        StringBuilder tape = new StringBuilder();
        long[][] rows = new long[4][];
        int[] sorts = new int[4];
        Model[] images = new Model[2];

        Model() {
        }

        /** Only the land and what stands in it. */
        Model(Model o) {
            take(o);
        }

        void take(Model o) {
            houses = new ArrayList<>();
            for (House h : o.houses) {
                houses.add(new House(h));
            }
            ropes = new ArrayList<>();
            for (Rope r : o.ropes) {
                ropes.add(new Rope(r));
            }
            hour = o.hour;
            heavy = o.heavy;
            fly = o.fly;
            lines = o.lines;
        }

        // ---- the land

        void feedText(String text) {
            tape.append(text);
            while (tape.length() % 20 != 0) {
                tape.append('\0');
            }
        }

        int feed(int... v) {
            if (tape.length() > 880) {
                return -5;
            }
            for (int w : v) {
                for (int s = 24; s >= 0; s -= 8) {
                    tape.append((char) (w >> s & 255));
                }
            }
            return tape.length();
        }

        private static final class Fault extends RuntimeException {
            private static final long serialVersionUID = 1;
            final int kind;
            final int place;

            Fault(int kind, int place) {
                this.kind = kind;
                this.place = place;
            }
        }

        private String text;
        private int at;
        private int tokenAt;

        int land(int n) {
            if (n < 0 || n > tape.length()) {
                return -3;
            }
            text = tape.substring(0, n);
            tape.setLength(0);
            Model told = new Model();
            told.text = text;
            faultKind = 0;
            faultPlace = -1;
            try {
                told.readAll();
            } catch (Fault f) {
                faultKind = f.kind;
                faultPlace = f.place;
                return -30 - f.kind;
            }
            take(told);
            return lines;
        }

        /** The next token, not gone past: "" at the end. */
        private String peek() {
            int p = at;
            while (p < text.length() && " \n".indexOf(text.charAt(p)) >= 0) {
                p++;
            }
            tokenAt = p;
            String rest = text.substring(p);
            if (rest.isEmpty()) {
                return "";
            }
            String word = rest.replaceFirst("(?s)^([a-z]*).*$", "$1");
            String digits = rest.replaceFirst("(?s)^([0-9]*).*$", "$1");
            if (!word.isEmpty()) {
                return word;
            }
            if (digits.length() > 4) {
                throw new Fault(1, p);
            }
            if (!digits.isEmpty()) {
                return digits;
            }
            if (rest.charAt(0) == ';') {
                return ";";
            }
            throw new Fault(1, p);
        }

        private boolean optional(String word) {
            if (!peek().equals(word)) {
                return false;
            }
            at = tokenAt + word.length();
            return true;
        }

        private void need(String word) {
            if (!optional(word)) {
                throw new Fault(2, tokenAt);
            }
        }

        private int number(int least, int most, int not) {
            String t = peek();
            if (t.isEmpty() || !Character.isDigit(t.charAt(0))) {
                throw new Fault(2, tokenAt);
            }
            int v = Integer.parseInt(t);
            if (v < least || v > most || v == not) {
                throw new Fault(3, tokenAt);
            }
            at = tokenAt + t.length();
            return v;
        }

        private void readAll() {
            while (!peek().isEmpty()) {
                if (optional("house")) {
                    if (houses.size() == 10) {
                        throw new Fault(4, tokenAt);
                    }
                    House h = new House();
                    h.strength = number(0, 20, -1);
                    h.level = optional("level") ? number(1, 9, -1) : 3;
                    h.stock = optional("stock") ? number(0, 99, -1) : 9;
                    h.thirst = optional("thirst") ? number(0, 4095, -1) : 0;
                    houses.add(h);
                } else if (optional("rope")) {
                    if (ropes.size() == 16) {
                        throw new Fault(4, tokenAt);
                    }
                    Rope r = new Rope();
                    r.end[0] = number(0, houses.size() - 1, -1);
                    r.end[1] = number(0, houses.size() - 1, r.end[0]);
                    need("long");
                    r.length = number(2, 9, -1);
                    r.depth[0] = optional("at") ? number(0, r.length, -1) : 0;
                    r.depth[1] = r.length - r.depth[0];
                    if (optional("stones")) {
                        r.stones[0] = number(0, 9, -1);
                        r.stones[1] = number(0, 9, -1);
                    }
                    ropes.add(r);
                } else if (optional("full")) {
                    heavy = number(1, 9, -1);
                } else if (optional("fly")) {
                    fly = number(1, 40, -1);
                } else {
                    throw new Fault(2, tokenAt);
                }
                need(";");
                lines++;
            }
        }

        boolean noHouse(int h) {
            return h < 0 || h >= houses.size();
        }

        boolean noRope(int r) {
            return r < 0 || r >= ropes.size();
        }

        List<Integer> ropesOf(int h) {
            List<Integer> its = new ArrayList<>();
            for (int r = 0; r < ropes.size(); r++) {
                if (ropes.get(r).end[0] == h || ropes.get(r).end[1] == h) {
                    its.add(r);
                }
            }
            return its;
        }

        List<Integer> openOf(int h) {
            List<Integer> its = ropesOf(h);
            its.removeIf(r -> ropes.get(r).cut);
            return its;
        }

        int house(int h, int what) {
            if (noHouse(h) || what < 0 || what > 7) {
                return -2;
            }
            House o = houses.get(h);
            int bits = 0;
            for (int r : ropesOf(h)) {
                bits += 1 << r;
            }
            return new int[] {o.strength, o.level, o.stock, o.thirst, o.quenched + o.wasted,
                o.quenched, o.wasted, bits}[what];
        }

        int weight(Rope r, int side) {
            return 2 + r.stones[side] + (r.full[side] ? heavy : 0);
        }

        int rope(int r, int what) {
            if (noRope(r) || what < 0 || what > 9) {
                return -2;
            }
            Rope o = ropes.get(r);
            return new int[] {o.end[0], o.end[1], o.length, o.depth[0], o.depth[1],
                o.full[0] ? 1 : 0, o.full[1] ? 1 : 0, weight(o, 0), weight(o, 1),
                o.cut ? 1 : 0}[what];
        }

        // ---- hours

        int[] noPulls() {
            int[] p = new int[houses.size()];
            Arrays.fill(p, -1);
            return p;
        }

        int hour(int[] pulls) {
            for (int i = 0; i < ropes.size(); i++) {
                Rope r = ropes.get(i);
                int[] down = new int[2];
                for (int side = 0; side < 2; side++) {
                    int other = r.end[1 - side];
                    down[side] = weight(r, side)
                            + (pulls[other] == i ? houses.get(other).strength : 0);
                }
                if (!r.cut && down[0] != down[1]) {
                    int sinks = down[0] > down[1] ? 0 : 1;
                    int by = Math.abs(down[0] - down[1]) >= fly ? 99 : 1;
                    r.depth[sinks] = Math.min(r.length, r.depth[sinks] + by);
                    r.depth[1 - sinks] = r.length - r.depth[sinks];
                }
            }
            for (Rope r : ropes) {
                for (int side = 0; side < 2; side++) {
                    House h = houses.get(r.end[side]);
                    if (!r.cut && !r.full[side] && r.depth[side] >= h.level && h.stock > 0) {
                        r.full[side] = true;
                        h.stock--;
                    }
                }
            }
            int drunk = 0;
            for (Rope r : ropes) {
                for (int side = 0; side < 2; side++) {
                    House h = houses.get(r.end[side]);
                    if (!r.cut && r.full[side] && r.depth[side] == 0) {
                        r.full[side] = false;
                        drunk++;
                        if ((h.thirst & 1 << hour % 12) != 0) {
                            h.quenched++;
                        } else {
                            h.wasted++;
                        }
                    }
                }
            }
            hour++;
            return drunk;
        }

        int pass() {
            return hour == 9999 ? -5 : hour(noPulls());
        }

        int pull(int h, int r) {
            if (noHouse(h) || noRope(r) || !ropesOf(h).contains(r)) {
                return -2;
            }
            if (ropes.get(r).cut || hour == 9999) {
                return -5;
            }
            int[] p = noPulls();
            p[h] = r;
            return hour(p);
        }

        /** place, why, hours, drunk, pulls of a row that is done here. */
        int[] told(long[] row) {
            int hours = 0;
            int drunk = 0;
            int made = 0;
            int[] p = noPulls();
            int now = 0;
            for (int i = 0; i <= row.length; i++) {
                if (i == row.length || row[i] == -1) {
                    if (hour == 9999) {
                        return new int[] {i, 3, hours, drunk, made};
                    }
                    drunk += hour(p);
                    hours++;
                    made += now;
                    now = 0;
                    p = noPulls();
                } else {
                    long h = Math.floorDiv(row[i], 20L);
                    int r = (int) Math.floorMod(row[i], 20L);
                    if (h < 0 || h >= houses.size() || !openOf((int) h).contains(r)) {
                        return new int[] {i, 1, hours, drunk, made};
                    }
                    if (p[(int) h] >= 0) {
                        return new int[] {i, 2, hours, drunk, made};
                    }
                    p[(int) h] = r;
                    now++;
                }
            }
            return new int[] {-1, 0, hours, drunk, made};
        }

        int judge(int row, int what) {
            if (row < 0 || row > 3 || what < 0 || what > 4) {
                return -2;
            }
            return rows[row] == null ? -6 : new Model(this).told(rows[row])[what];
        }

        int perform(int row) {
            if (row < 0 || row > 3) {
                return -2;
            }
            return rows[row] == null ? -6 : told(rows[row])[2];
        }

        /** drunk, quenched, pulls, both of a custom that is done here. */
        int[] lived(int n) {
            int[] sum = new int[4];
            for (House h : houses) {
                sum[1] -= h.quenched;
            }
            for (int i = 0; i < n; i++) {
                int[] p = noPulls();
                for (int h = 0; h < p.length; h++) {
                    if ((houses.get(h).thirst >> hour % 12) % 2 == 1) {
                        for (int r : openOf(h)) {
                            Rope o = ropes.get(r);
                            if (p[h] < 0 && o.depth[o.end[0] == h ? 0 : 1] > 0) {
                                p[h] = r;
                                sum[2]++;
                            }
                        }
                    }
                }
                for (int h = 0; h < p.length; h++) {
                    for (int k = h + 1; k < p.length; k++) {
                        sum[3] += p[h] >= 0 && p[h] == p[k] ? 1 : 0;
                    }
                }
                sum[0] += hour(p);
            }
            for (House h : houses) {
                sum[1] += h.quenched;
            }
            return sum;
        }

        int custom(int n, int what) {
            boolean asksHouse = what >= 10 && !noHouse(what - 10);
            if (!asksHouse && (what < 0 || what > 3)) {
                return -2;
            }
            if (n < 1 || n > 99) {
                return -3;
            }
            if (hour + n > 9999) {
                return -5;
            }
            Model then = new Model(this);
            int[] sum = then.lived(n);
            return asksHouse ? then.house(what - 10, 4) - house(what - 10, 4) : sum[what];
        }

        int live(int n) {
            if (n < 1 || n > 99) {
                return -3;
            }
            return hour + n > 9999 ? -5 : lived(n)[0];
        }

        int drought(int seed, int n) {
            if (n < 1 || n > 60) {
                return -3;
            }
            if (hour + n > 9999) {
                return -5;
            }
            int x = seed;
            int drunk = 0;
            for (int i = 0; i < n; i++) {
                int[] p = noPulls();
                for (int h = 0; h < p.length; h++) {
                    x = x * 1103515245 + 12345;
                    List<Integer> its = openOf(h);
                    its.add(0, -1);
                    p[h] = its.get((x >>> 16) % its.size());
                }
                drunk += hour(p);
            }
            return drunk;
        }

        int cut(int r) {
            if (noRope(r)) {
                return -2;
            }
            if (ropes.get(r).cut) {
                return -5;
            }
            ropes.get(r).cut = true;
            return 0;
        }

        int stones(int r, boolean second, int n) {
            if (noRope(r)) {
                return -2;
            }
            if (n < 0 || n > 9) {
                return -3;
            }
            ropes.get(r).stones[second ? 1 : 0] = n;
            return weight(ropes.get(r), second ? 1 : 0);
        }

        // ---- rest

        int rests() {
            Model then = new Model(this);
            then.hour(noPulls());
            int bits = 0;
            for (int r = 0; r < ropes.size(); r++) {
                bits |= then.ropes.get(r).depth[0] == ropes.get(r).depth[0] ? 1 << r : 0;
            }
            return bits;
        }

        int calm() {
            Model then = new Model(this);
            for (int i = 0; i <= 99; i++) {
                if (Integer.bitCount(then.rests()) == ropes.size()) {
                    return i;
                }
                then.hour(noPulls());
            }
            return -1;
        }

        int even() {
            int sum = 0;
            for (Rope r : ropes) {
                sum += r.cut ? 0 : Math.abs(weight(r, 0) - weight(r, 1));
            }
            return sum;
        }

        int lifts(int h, int r) {
            if (noHouse(h) || noRope(r) || !ropesOf(h).contains(r)) {
                return -2;
            }
            if (ropes.get(r).cut) {
                return -5;
            }
            Model then = new Model(this);
            int[] p = noPulls();
            p[h] = r;
            then.hour(p);
            int side = ropes.get(r).end[0] == h ? 0 : 1;
            return then.ropes.get(r).depth[side] < ropes.get(r).depth[side] ? 1 : 0;
        }

        // ---- rings

        boolean tied(int a, int b) {
            for (int r : openOf(a)) {
                if (ropesOf(b).contains(r)) {
                    return true;
                }
            }
            return false;
        }

        int together() {
            int n = houses.size();
            int best = 0;
            for (int set = (1 << n) - 1; set > 0; set--) {
                boolean fine = true;
                for (Rope r : ropes) {
                    fine &= r.cut || (set >> r.end[0] & set >> r.end[1] & 1) == 0;
                }
                if (fine && Integer.bitCount(set) >= Integer.bitCount(best)) {
                    best = set;
                }
            }
            return best;
        }

        int part(int h) {
            Set<Integer> met = new HashSet<>();
            List<Integer> list = new ArrayList<>(List.of(h));
            int bits = 0;
            while (!list.isEmpty()) {
                int a = list.remove(0);
                if (met.add(a)) {
                    bits |= 1 << a;
                    for (int r : openOf(a)) {
                        list.add(ropes.get(r).end[0] + ropes.get(r).end[1] - a);
                    }
                }
            }
            return bits;
        }

        int parts() {
            Set<Integer> all = new HashSet<>();
            for (int h = 0; h < houses.size(); h++) {
                all.add(part(h));
            }
            return all.size();
        }

        int parted() {
            int n = houses.size();
            for (int set = 0; set < 1 << n; set++) {
                boolean fine = true;
                for (Rope r : ropes) {
                    fine &= r.cut || ((set >> r.end[0] ^ set >> r.end[1]) & 1) == 1;
                }
                for (int h = 0; h < n && fine; h++) {
                    fine = (set >> Integer.numberOfTrailingZeros(part(h)) & 1) == 1;
                }
                if (fine) {
                    return set;
                }
            }
            return -1;
        }

        int ring() {
            int best = 99;
            for (int h = 0; h < houses.size(); h++) {
                best = Math.min(best, back(h, h, new HashSet<>(), best));
            }
            return best == 99 ? -1 : best;
        }

        /** The fewest ropes of a way on from one house to another, without a rope twice. */
        int back(int from, int to, Set<Integer> used, int best) {
            if (from == to && !used.isEmpty()) {
                return used.size();
            }
            if (used.size() + 1 >= best) {
                return 99;
            }
            int fewest = best;
            for (int r : openOf(from)) {
                if (used.add(r)) {
                    int next = ropes.get(r).end[0] + ropes.get(r).end[1] - from;
                    fewest = Math.min(fewest, back(next, to, used, fewest));
                    used.remove(r);
                }
            }
            return fewest;
        }

        int neighbours(int h) {
            return noHouse(h) ? -2 : part(h);
        }

        int severs(int r) {
            if (noRope(r)) {
                return -2;
            }
            if (ropes.get(r).cut) {
                return -5;
            }
            Model then = new Model(this);
            then.cut(r);
            return then.parts() - parts();
        }

        // ---- sought

        /** All ways to pull in an hour. */
        List<int[]> ways() {
            List<int[]> all = new ArrayList<>();
            all.add(noPulls());
            for (int h = 0; h < houses.size(); h++) {
                List<int[]> more = new ArrayList<>();
                for (int[] p : all) {
                    more.add(p);
                    for (int r : openOf(h)) {
                        int[] q = p.clone();
                        q[h] = r;
                        more.add(q);
                    }
                }
                all = more;
            }
            return all;
        }

        boolean tooMany() {
            int open = 0;
            for (Rope r : ropes) {
                open += r.cut ? 0 : 1;
            }
            return houses.size() > 4 || open > 3;
        }

        String state(int has) {
            StringBuilder sb = new StringBuilder();
            for (Rope r : ropes) {
                sb.append(r.depth[0]).append(r.full[0]).append(r.full[1]);
            }
            for (House h : houses) {
                sb.append(' ').append(h.stock);
            }
            return sb.append(" has ").append(has).toString();
        }

        int soonest(int h, int n) {
            if (noHouse(h)) {
                return -2;
            }
            if (n < 1 || n > 3) {
                return -3;
            }
            if (tooMany()) {
                return -4;
            }
            List<int[]> ways = ways();
            int had = house(h, 4);
            Set<String> met = new HashSet<>();
            met.add(state(0));
            List<Model> now = new ArrayList<>(List.of(this));
            for (int t = 1;; t++) {
                List<Model> next = new ArrayList<>();
                for (Model m : now) {
                    for (int[] p : ways) {
                        Model then = new Model(m);
                        then.hour(p);
                        int has = then.house(h, 4) - had;
                        if (has >= n) {
                            return t;
                        }
                        if (met.add(then.state(has))) {
                            next.add(then);
                        }
                    }
                }
                if (met.size() > 3000) {
                    return -4;
                }
                if (next.isEmpty()) {
                    return -1;
                }
                now = next;
            }
        }

        int loss(int h, int r) {
            if (noHouse(h) || noRope(r)) {
                return -2;
            }
            if (ropes.get(r).cut) {
                return -5;
            }
            int now = soonest(h, 1);
            if (now < 0) {
                return now == -1 ? -5 : now;
            }
            Model then = new Model(this);
            then.cut(r);
            int later = then.soonest(h, 1);
            return later < 0 ? later : later - now;
        }

        int cheapest(int h, int hours) {
            if (noHouse(h)) {
                return -2;
            }
            if (hours < 1 || hours > 6) {
                return -3;
            }
            if (tooMany()) {
                return -4;
            }
            List<int[]> ways = ways();
            int had = house(h, 4);
            int best = 999;
            Map<String, Model> now = new HashMap<>();
            Map<String, Integer> cost = new HashMap<>();
            now.put(state(0), this);
            cost.put(state(0), 0);
            for (int t = 1; t <= hours; t++) {
                Map<String, Model> next = new HashMap<>();
                Map<String, Integer> dear = new HashMap<>();
                for (String s : now.keySet()) {
                    for (int[] p : ways) {
                        Model then = new Model(now.get(s));
                        then.hour(p);
                        int c = cost.get(s);
                        for (int r : p) {
                            c += r >= 0 ? 1 : 0;
                        }
                        if (then.house(h, 4) > had) {
                            best = Math.min(best, c);
                        } else if (t < hours) {
                            next.put(then.state(0), then);
                            dear.merge(then.state(0), c, Math::min);
                        }
                    }
                }
                if (next.size() > 3000) {
                    return -4;
                }
                now = next;
                cost = dear;
            }
            return best == 999 ? -1 : best;
        }

        private int aloneMost;
        private List<Integer> aloneRow;

        int alone(int h, int n, int what) {
            if (noHouse(h) || what != 0 && (what < 10 || what > 16)) {
                return -2;
            }
            if (n < 1 || n > 7) {
                return -3;
            }
            if (openOf(h).size() > 3) {
                return -4;
            }
            if (what >= 10 + n) {
                return -7;
            }
            aloneMost = -1;
            alone(this, h, n, new ArrayList<>());
            return what == 0 ? aloneMost : aloneRow.get(what - 10);
        }

        private void alone(Model m, int h, int n, List<Integer> row) {
            if (row.size() == n) {
                int more = m.house(h, 4) - house(h, 4);
                if (more > aloneMost) {
                    aloneMost = more;
                    aloneRow = new ArrayList<>(row);
                }
                return;
            }
            List<Integer> its = openOf(h);
            its.add(0, -1);
            for (int r : its) {
                Model then = new Model(m);
                int[] p = noPulls();
                p[h] = r;
                then.hour(p);
                row.add(r);
                alone(then, h, n, row);
                row.remove(row.size() - 1);
            }
        }

        int mate(int h) {
            if (noHouse(h)) {
                return -2;
            }
            int best = -1;
            int fewest = 99;
            for (int k = 0; k < houses.size(); k++) {
                int shared = Integer.bitCount(houses.get(h).thirst & houses.get(k).thirst);
                if (k != h && !tied(h, k) && shared < fewest) {
                    best = k;
                    fewest = shared;
                }
            }
            return best;
        }

        private int[] dwellers;

        int dwellings(int what) {
            if (what != 0 && what != 1 && (what < 10 || noHouse(what - 10))) {
                return -2;
            }
            if (houses.size() > 7) {
                return -4;
            }
            dwellers = null;
            orders(new ArrayList<>());
            return what < 10 ? dwellers[what] : dwellers[2 + what - 10];
        }

        private void orders(List<Integer> order) {
            int n = houses.size();
            if (order.size() < n) {
                for (int i = 0; i < n; i++) {
                    if (!order.contains(i)) {
                        order.add(i);
                        orders(order);
                        order.remove(order.size() - 1);
                    }
                }
                return;
            }
            int[] found = new int[2 + n];
            for (Rope r : ropes) {
                found[0] += r.cut ? 0 : Integer.bitCount(houses.get(order.get(r.end[0])).thirst
                        & houses.get(order.get(r.end[1])).thirst);
            }
            for (int i = 0; i < n; i++) {
                found[1] += order.get(i) == i ? 0 : 1;
                found[2 + i] = order.get(i);
            }
            if (dwellers == null || Arrays.compare(found, dwellers) < 0) {
                dwellers = found;
            }
        }

        int clash(int r) {
            int sum = 0;
            for (int i = 0; i < ropes.size(); i++) {
                Rope o = ropes.get(i);
                if (r == i || r == -1 && !o.cut) {
                    sum += Integer.bitCount(houses.get(o.end[0]).thirst
                            & houses.get(o.end[1]).thirst);
                }
            }
            return r != -1 && noRope(r) ? -2 : sum;
        }

        private int sightRefusal(int row) {
            if (row < 0 || row > 3) {
                return -2;
            }
            if (rows[row] == null) {
                return -6;
            }
            if (rows[row].length != ropes.size()) {
                return -7;
            }
            return houses.size() > 6 ? -4 : 0;
        }

        /** The pulls behind which it is seen so. */
        private List<int[]> fitting(int row) {
            List<int[]> all = new ArrayList<>();
            for (int[] p : ways()) {
                Model then = new Model(this);
                then.hour(p);
                boolean fine = true;
                for (int r = 0; r < ropes.size(); r++) {
                    fine &= then.ropes.get(r).depth[0] == rows[row][r];
                }
                if (fine) {
                    all.add(p);
                }
            }
            return all;
        }

        int seen(int row) {
            return sightRefusal(row) != 0 ? sightRefusal(row) : fitting(row).size();
        }

        int pulled(int row) {
            if (sightRefusal(row) != 0) {
                return sightRefusal(row);
            }
            List<int[]> all = fitting(row);
            int bits = 0;
            for (int h = 0; h < houses.size() && !all.isEmpty(); h++) {
                boolean always = true;
                for (int[] p : all) {
                    always &= p[h] >= 0;
                }
                bits |= always ? 1 << h : 0;
            }
            return bits;
        }

        // ---- rows of numbers, images

        int numbers(int row, int sort, int n) {
            if (row < 0 || row > 3 || sort < 0 || sort > 3) {
                return -2;
            }
            if (n < 0 || n > 60) {
                return -3;
            }
            rows[row] = new long[n];
            sorts[row] = sort;
            return 0;
        }

        long write(int row, int i, long v) {
            if (row < 0 || row > 3) {
                return -2;
            }
            if (rows[row] == null) {
                return -6;
            }
            if (i < 0 || i >= rows[row].length) {
                return -7;
            }
            int off = 64 - (8 << sorts[row]);
            rows[row][i] = v << off >> off;
            return rows[row][i];
        }

        int copy(int row) {
            if (row < 0 || row > 3) {
                return -2;
            }
            if (rows[row] == null) {
                return -6;
            }
            if (rows[row].length < ropes.size()) {
                return -7;
            }
            for (int r = 0; r < ropes.size(); r++) {
                rows[row][r] = ropes.get(r).depth[0];
            }
            return ropes.size();
        }

        int image(int i) {
            if (i < 0 || i > 1) {
                return -2;
            }
            images[i] = new Model(this);
            return 0;
        }

        int restore(int i) {
            if (i < 0 || i > 1) {
                return -2;
            }
            if (images[i] == null) {
                return -5;
            }
            take(images[i]);
            return 0;
        }

        int count(int what) {
            int stock = 0;
            int full = 0;
            for (House h : houses) {
                stock += h.stock;
            }
            for (Rope r : ropes) {
                full += r.cut ? 0 : (r.full[0] ? 1 : 0) + (r.full[1] ? 1 : 0);
            }
            int[] all = {houses.size(), ropes.size(), hour, heavy, fly, stock, full,
                tape.length(), lines};
            return what < 0 || what > 8 ? -1 : all[what];
        }
    }
}
