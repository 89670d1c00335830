import java.util.ArrayList;
import java.util.List;

/** Boundary cases of promises 9 to 13: hours that are told, by custom, drawn. */
final class ToldEdges {
    private static final String TWO = "house 1;house 1;";
    /** Rope 0 hangs at houses 0 and 1, rope 1 at 1 and 2. */
    private static final String THREE = "house 2 stock 0;house 1 stock 0;house 1 stock 0;"
            + "rope 0 1 long 9 at 4;rope 1 2 long 9 at 4;";
    private static final String TEN = "house 0 stock 0;".repeat(10) + "rope 9 0 long 2;".repeat(16);
    private static final String TO_9900 = "times 100 live 99";
    private static final String TO_LAST_HOUR = "times 101 live 99";
    private static final int LEAST_INT = Integer.MIN_VALUE;
    private static final int GREATEST_INT = Integer.MAX_VALUE;

    private ToldEdges() {
    }

    /** A row of told hours and what is judged of it: place, why, hours, buckets, pulls. */
    private static String[] judged(String row, int place, int why, int hours, int drunk, int pulls) {
        return new String[] {
            row, "still judge 0 0 = " + place, "still judge 0 1 = " + why,
            "still judge 0 2 = " + hours, "still judge 0 3 = " + drunk, "still judge 0 4 = " + pulls,
        };
    }

    // ---- promise 9

    @Says("between HOURS -1 each (an HOUR without pulls, too)")
    static void promise09_emptyRowsAndEmptyHours() {
        Calls.run(THREE, judged("row 0 1:", -1, 0, 1, 0, 0));
        Calls.run(THREE, judged("row 0 1: -1", -1, 0, 2, 0, 0));
        Calls.run(THREE, judged("row 0 1: -1 -1", -1, 0, 3, 0, 0));
        Calls.run(THREE, judged("row 0 1: 0", -1, 0, 1, 0, 1));
        Calls.run(THREE, judged("row 0 1: 0 -1", -1, 0, 2, 0, 1));
        Calls.run(THREE, judged("row 0 1: -1 0", -1, 0, 2, 0, 1));
        Calls.run("", judged("row 0 1:", -1, 0, 1, 0, 0));
        for (int sort = 0; sort < 4; sort++) {
            Calls.run(THREE, judged("row 0 " + sort + ": 0 41 -1 20", -1, 0, 2, 0, 3));
        }
    }

    @Says("between HOURS -1 each (an HOUR without pulls, too)")
    static void promise09_aRowOf60() {
        Calls.run(THREE, judged("row 0 0:" + " -1".repeat(60), -1, 0, 61, 0, 0));
        Calls.run(THREE, judged("row 0 0:" + " 0 -1".repeat(30), -1, 0, 31, 0, 30));
        Calls.run(THREE, judged("row 0 0:" + " 0 -1".repeat(29) + " 0 0", 59, 2, 29, 0, 29));
        Calls.run(THREE, judged("row 0 0:" + " -1".repeat(59) + " 1", 59, 1, 59, 0, 0));
    }

    @Says("1 no such HOUSE or ROPE, or not one of its ROPES, or that ROPE is CUT")
    static void promise09_noSuchPull() {
        for (long n : new long[] {0, 20, 21, 41}) {
            Calls.run(THREE, judged("row 0 3: " + n, -1, 0, 1, 0, 1));
        }
        long[] none = {
            1, 2, 16, 19, 22, 36, 39, 40, 42, 59, 60, 61, 80, 200, -2, -19, -20, -21, -128,
            Long.MIN_VALUE, Long.MAX_VALUE, 1L << 32, (1L << 32) - 1, -(1L << 32), (1L << 32) + 20,
            Integer.MIN_VALUE, Integer.MAX_VALUE,
        };
        for (long n : none) {
            Calls.run(THREE, judged("row 0 3: " + n, 0, 1, 0, 0, 0));
        }
        Calls.run(THREE, judged("row 0 3: 0 -1 41 40", 3, 1, 1, 0, 1));
    }

    @Says("pulls as numbers 20 times a HOUSE and a ROPE")
    static void promise09_theLastHouseAndRope() {
        for (int n : new int[] {0, 15, 180, 195}) {
            Calls.run(TEN, judged("row 0 1: " + n, -1, 0, 1, 0, 1));
        }
        for (int n : new int[] {16, 19, 20, 35, 179, 196, 199, 200, 215}) {
            Calls.run(TEN, judged("row 0 1: " + n, 0, 1, 0, 0, 0));
        }
        // In eight bits 195 is another number.
        Calls.run(TEN, "numbers 0 0 1 = 0", "write 0 0 195 = -61", "judge 0 1 = 1");
    }

    @Says("1 no such HOUSE or ROPE, or not one of its ROPES, or that ROPE is CUT")
    static void promise09_cutRopes() {
        Calls.run(THREE, "cut 1 = 0", "row 0 1: 0 41", "judge 0 0 = 1", "judge 0 1 = 1",
                "judge 0 2 = 0", "row 0 1: 0 20", "judge 0 1 = 0", "row 0 1: 21", "judge 0 0 = 0",
                "judge 0 1 = 1");
    }

    @Says("2 that HOUSE pulls in that HOUR already")
    static void promise09_pullsAlready() {
        Calls.run(THREE, judged("row 0 1: 20 20", 1, 2, 0, 0, 0));
        Calls.run(THREE, judged("row 0 1: 20 21", 1, 2, 0, 0, 0));
        Calls.run(THREE, judged("row 0 1: 21 0 41 20", 3, 2, 0, 0, 0));
        Calls.run(THREE, judged("row 0 1: 20 -1 20", -1, 0, 2, 0, 2));
        Calls.run(THREE, judged("row 0 1: 20 0", -1, 0, 1, 0, 2));
        Calls.run(THREE, judged("row 0 1: 0 20 41 -1 41 41", 5, 2, 1, 0, 3));
    }

    @Says("3 HOUR would be above 9999 (at that -1, or the end of the ROW).")
    static void promise09_above9999() {
        // The row of 60 tells 61 hours.
        String sixty = "row 0 0:" + " -1".repeat(60);
        Calls.run(TWO, TO_9900, "live 38 = 0", sixty, "judge 0 0 = -1", "judge 0 1 = 0",
                "judge 0 2 = 61", "pass = 0", "judge 0 0 = 60", "judge 0 1 = 3", "judge 0 2 = 60",
                "pass = 0", "judge 0 0 = 59", "judge 0 1 = 3", "judge 0 2 = 59");
        String rope = TWO + "rope 0 1 long 2;";
        Calls.run(rope, TO_9900, "live 98 = 0", "row 0 1: 0 -1 20", "judge 0 0 = 3", "judge 0 1 = 3",
                "judge 0 2 = 1", "judge 0 4 = 1", "row 0 1: 0", "judge 0 0 = -1", "judge 0 1 = 0",
                "row 0 1: 0 -1", "judge 0 0 = 2", "judge 0 1 = 3");
        Calls.run(rope, TO_LAST_HOUR, "row 0 1:", "judge 0 0 = 0", "judge 0 1 = 3", "judge 0 2 = 0",
                "row 0 1: -1", "judge 0 0 = 0", "judge 0 1 = 3", "row 0 1: 0", "judge 0 0 = 1",
                "judge 0 1 = 3", "judge 0 4 = 0");
    }

    @Says("(Of one number that which is told first.)")
    static void promise09_whatIsToldFirst() {
        // House 1 pulls already, and what it pulls then is no rope of its, or cut.
        Calls.run(THREE, judged("row 0 1: 20 22", 1, 1, 0, 0, 0));
        Calls.run(THREE, judged("row 0 1: 0 1", 1, 1, 0, 0, 0));
        Calls.run(THREE, "cut 0 = 0", "row 0 1: 21 20", "judge 0 0 = 1", "judge 0 1 = 1");
        // A number that can't be is ahead of the end of an hour that can't be.
        Calls.run(THREE, TO_LAST_HOUR, "row 0 1: 1", "judge 0 0 = 0", "judge 0 1 = 1",
                "row 0 1: 0 0 -1", "judge 0 0 = 1", "judge 0 1 = 2", "row 0 1: -1 1",
                "judge 0 0 = 0", "judge 0 1 = 3");
    }

    @Says("what 0: the first place that can't be (NONE; the ROW's length: its end), 1: why (0), 2: HOURS that would be done")
    static void promise09_theFirstPlace() {
        Calls.run(THREE, judged("row 0 1: 1 0 0 -1", 0, 1, 0, 0, 0));
        Calls.run(THREE, judged("row 0 1: 0 0 1 -1", 1, 2, 0, 0, 0));
        Calls.run(THREE, judged("row 0 1: -1 0 -1 1 0 0", 3, 1, 2, 0, 1));
    }

    @Says("3: buckets that would be drunk, 4: pulls in these HOURS.")
    static void promise09_onlyOfHoursThatAreDone() {
        String text = "house 9 level 1;house 9 level 1;rope 0 1 long 2 at 1;";
        // Both fill in the first hour; then each one drinks in turn.
        Calls.run(text, judged("row 0 1: -1 0 -1 20", -1, 0, 3, 1, 2));
        Calls.run(text, judged("row 0 1: -1 0 -1 20 -1 20", -1, 0, 4, 2, 3));
        Calls.run(text, judged("row 0 1: -1 0 -1 20 -1 20 99", 6, 1, 3, 1, 2));
        Calls.run(text, judged("row 0 1: -1 0 0", 2, 2, 1, 0, 0));
    }

    @Says("-2: the ROW, what; -6.")
    static void promise09_noSuchRowOrWhat() {
        Calls.run(THREE, "still judge 4 0 = -2", "still judge -1 0 = -2", "still judge 3 0 = -6",
                "still judge 3 5 = -2", "still judge 3 -1 = -2", "judge " + LEAST_INT + " 0 = -2",
                "judge " + GREATEST_INT + " 0 = -2", "row 3 0:", "still judge 3 4 = 0",
                "still judge 3 5 = -2", "still judge 3 -1 = -2", "judge 3 " + LEAST_INT + " = -2",
                "judge 3 " + GREATEST_INT + " = -2", "still judge 0 0 = -6", "still judge 2 4 = -6",
                "row 0 0:", "judge 0 2 = 1");
    }

    // ---- promise 10

    @Says("They are done as far as they can: how many HOURS.")
    static void promise10_asFarAsTheyCan() {
        Calls.run(THREE, "row 0 1: 0 -1 0 0 -1 0", "perform 0 = 1", "count 2 = 1", "rope 0 3 = 3",
                "row 0 1: 0 -1 0", "perform 0 = 2", "count 2 = 3", "rope 0 3 = 1");
        Calls.run(THREE, "row 0 1:", "perform 0 = 1", "count 2 = 1", "row 0 1: -1", "perform 0 = 2",
                "count 2 = 3", "row 0 0:" + " -1".repeat(60), "perform 0 = 61", "count 2 = 64");
    }

    @Says("HOURS ahead of it are done, that one is not at all.")
    static void promise10_notAtAll() {
        Calls.run(THREE, "row 0 1: 0 20 41 0", "still perform 0 = 0", "row 0 1: 1",
                "still perform 0 = 0", "row 0 1: 0 -1 41 40", "perform 0 = 1", "count 2 = 1",
                "rope 0 3 = 3", "rope 1 3 = 4");
    }

    @Says("3 HOUR would be above 9999 (at that -1, or the end of the ROW).")
    static void promise10_upTo9999() {
        String sixty = "row 0 0:" + " -1".repeat(60);
        Calls.run(TWO, TO_9900, "live 38 = 0", sixty, "perform 0 = 61", "count 2 = 9999",
                "still perform 0 = 0");
        Calls.run(TWO, TO_9900, "live 39 = 0", sixty, "perform 0 = 60", "count 2 = 9999");
        Calls.run(TWO, TO_9900, "live 98 = 0", "row 0 0:", "perform 0 = 1", "still perform 0 = 0");
    }

    @Says("`int perform(int row)`: They are done as far as they can: how many HOURS. -2; -6.")
    static void promise10_noSuchRow() {
        Calls.run(THREE, "still perform 4 = -2", "still perform -1 = -2", "still perform 0 = -6",
                "still perform 3 = -6", "still perform " + LEAST_INT + " = -2",
                "still perform " + GREATEST_INT + " = -2", "row 3 0:", "perform 3 = 1",
                "still perform 2 = -6");
    }

    // ---- promise 11

    /** House 0 pulls in each hour of its thirst, as its bucket never moves. */
    private static String thirsty(int thirst) {
        return "house 0 stock 0 thirst " + thirst + ";house 0 stock 0;rope 0 1 long 2 at 1;";
    }

    @Says("in each HOUR each HOUSE that thirsts then (HOUR modulo 12 of its THIRST)")
    static void promise11_hoursModulo12() {
        Calls.run(thirsty(1), "custom 1 2 = 1", "custom 12 2 = 1", "custom 13 2 = 2",
                "custom 24 2 = 2", "custom 25 2 = 3", "custom 96 2 = 8", "custom 97 2 = 9",
                "custom 99 2 = 9");
        Calls.run(thirsty(2048), "custom 11 2 = 0", "custom 12 2 = 1", "custom 23 2 = 1",
                "custom 24 2 = 2", "custom 99 2 = 8", "live 11 = 0", "custom 1 2 = 1", "pass = 0",
                "custom 1 2 = 0", "custom 11 2 = 0", "custom 12 2 = 1");
        Calls.run(thirsty(4095), "custom 1 2 = 1", "custom 99 2 = 99");
        Calls.run(thirsty(0), "custom 99 2 = 0");
        Calls.run(thirsty(4094), "custom 1 2 = 0", "custom 12 2 = 11", "custom 13 2 = 11");
        // 9998 is the third hour of its day.
        Calls.run(thirsty(4), TO_9900, "live 98 = 0", "custom 1 2 = 1");
        Calls.run(thirsty(4091), TO_9900, "live 98 = 0", "custom 1 2 = 0");
    }

    @Says("pulls the first of its ROPES that aren't CUT on which its bucket isn't at DEPTH 0; others none")
    static void promise11_theFirstThatIsntUp() {
        String houses = "house 1 stock 0 thirst 1;house 0 stock 0;";
        Calls.run(houses + "rope 0 1 long 2;", "custom 1 2 = 0");
        Calls.run(houses + "rope 1 0 long 2 at 2;", "custom 1 2 = 0");
        Calls.run(houses + "rope 1 0 long 2;", "custom 1 2 = 1", "live 1 = 0", "rope 0 3 = 1");
        Calls.run(houses, "custom 1 2 = 0");
        String three = houses + "rope 0 1 long 2;rope 0 1 long 2 at 1;rope 0 1 long 2 at 2;";
        Calls.run(three, "custom 1 2 = 1", "live 1 = 0", "rope 0 3 = 0", "rope 1 3 = 0",
                "rope 2 3 = 2");
        Calls.run(three, "cut 1 = 0", "live 1 = 0", "rope 1 3 = 1", "rope 2 3 = 1");
        Calls.run(three, "cut 1 = 0", "cut 2 = 0", "custom 1 2 = 0");
        // By its second buckets, and behind ropes of others.
        String seconds = "house 0 stock 0;house 1 stock 0 thirst 1;house 0 stock 0;";
        Calls.run(seconds + "rope 0 2 long 3 at 1;rope 0 1 long 3 at 3;rope 2 1 long 3 at 2;"
                + "rope 0 1 long 3 at 1;", "live 1 = 0", "rope 0 3 = 1", "rope 1 3 = 3",
                "rope 2 3 = 3", "rope 3 3 = 1");
        Calls.run(seconds + "rope 1 0 long 3;rope 2 1 long 3 at 3;rope 1 0 long 3 at 1;", "live 1 = 0",
                "rope 0 3 = 0", "rope 1 3 = 3", "rope 2 3 = 0");
    }

    @Says("3: how often both HOUSES of a ROPE pull it in one HOUR")
    static void promise11_both() {
        String houses = "house 0 stock 0 thirst 4095;house 0 stock 0 thirst 3;";
        Calls.run(houses + "rope 0 1 long 2 at 1;", "custom 1 3 = 1", "custom 2 3 = 2",
                "custom 3 3 = 2", "custom 12 3 = 2", "custom 14 3 = 4", "custom 3 2 = 5");
        // Rope 2 alone is pulled by both.
        Calls.run("house 0 stock 0 thirst 1;".repeat(4) + "rope 0 1 long 2;rope 1 0 long 2;"
                + "rope 3 2 long 2 at 1;", "custom 1 3 = 1", "custom 1 2 = 4", "cut 2 = 0",
                "custom 1 3 = 0", "custom 1 2 = 2");
        // Each one pulls a rope of its own.
        Calls.run(houses + "rope 0 1 long 2;rope 0 1 long 2 at 2;", "custom 1 3 = 0",
                "custom 1 2 = 2");
    }

    @Says("CUSTOM for n HOURS (1 to 99), as if done")
    static void promise11_oneTo99Hours() {
        String text = thirsty(4095);
        Calls.run(text, "still custom 1 2 = 1", "still custom 99 2 = 99", "still custom 0 2 = -3",
                "still custom 100 2 = -3", "still custom -1 2 = -3",
                "still custom " + LEAST_INT + " 2 = -3", "still custom " + GREATEST_INT + " 2 = -3");
    }

    @Says("10 + h: how many HOUSE h would have more. -2: what; -3: n; -5: HOUR would be above 9999.")
    static void promise11_noSuchWhat() {
        String text = "house 1;".repeat(9);
        Calls.run(text, "still custom 1 0 = 0", "still custom 1 3 = 0", "still custom 1 4 = -2",
                "still custom 1 9 = -2", "still custom 1 -1 = -2", "still custom 1 10 = 0",
                "still custom 1 18 = 0", "still custom 1 19 = -2", "custom 1 20 = -2",
                "custom 1 " + LEAST_INT + " = -2", "custom 1 " + GREATEST_INT + " = -2",
                "still custom 0 4 = -2", "still custom 100 19 = -2", "still custom 0 18 = -3");
        Calls.run(text + "house 1;", "custom 1 19 = 0", "custom 1 20 = -2");
    }

    @Says("-2: what; -3: n; -5: HOUR would be above 9999.")
    static void promise11_above9999() {
        Calls.run(thirsty(4095), TO_9900, "custom 99 2 = 99", "pass = 0", "still custom 99 2 = -5",
                "custom 98 2 = 98", "still custom 99 4 = -2", "still custom 100 2 = -3", "live 97 = 0",
                "custom 1 2 = 1", "still custom 2 2 = -5", "pass = 0", "still custom 1 2 = -5",
                "still custom 0 2 = -3", "still custom 1 -1 = -2");
    }

    @Says("what 0: buckets that would be drunk, 1: of these QUENCHED ones")
    static void promise11_moreThanNow() {
        // It has one already: only what is more counts.
        String text = "fly 40;house 9 level 1 thirst 7;house 1 stock 0;rope 0 1 long 2 at 1;";
        Calls.run(text, "pass = 0", "pull 0 0 = 1", "house 0 5 = 1", "pull 1 0 = 0",
                "still custom 1 0 = 0", "still custom 1 1 = 0", "still custom 1 10 = 0",
                "stones 0 true 9 = 11", "still custom 1 0 = 1", "still custom 1 1 = 0",
                "still custom 1 10 = 1", "still custom 1 11 = 0");
        Calls.run(text, "pass = 0", "custom 1 0 = 1", "custom 1 1 = 1", "custom 1 10 = 1");
    }

    // ---- promise 12

    @Says("`int live(int n)`: CUSTOM is done for n HOURS: buckets that were drunk. -3; -5.")
    static void promise12_oneTo99Hours() {
        Calls.run(thirsty(4095), "still live 0 = -3", "still live 100 = -3", "still live -1 = -3",
                "still live " + LEAST_INT + " = -3", "still live " + GREATEST_INT + " = -3",
                "live 1 = 0", "count 2 = 1", "live 99 = 0", "count 2 = 100");
    }

    @Says("`int live(int n)`: CUSTOM is done for n HOURS: buckets that were drunk. -3; -5.")
    static void promise12_above9999() {
        Calls.run(thirsty(4095), TO_9900, "pass = 0", "still live 99 = -5", "still live 100 = -3",
                "live 98 = 0", "count 2 = 9999", "still live 1 = -5", "still live 0 = -3");
        Calls.run(thirsty(4095), TO_9900, "live 99 = 0", "count 2 = 9999");
    }

    @Says("CUSTOM is done for n HOURS: buckets that were drunk.")
    static void promise12_howManyWereDrunk() {
        String text = "fly 40;house 9 level 1 stock 1 thirst 2;house 1 stock 0;rope 0 1 long 2 at 1;";
        Calls.run(text, "live 1 = 0", "rope 0 5 = 1", "live 1 = 1", "house 0 4 = 1", "live 99 = 0");
        Calls.run(text, "live 2 = 1", "count 2 = 2");
        Calls.run(text, "live 99 = 1", "count 2 = 99");
    }

    // ---- promise 13

    @Says("so many HOURS (1 to 60)")
    static void promise13_oneTo60Hours() {
        Calls.run(THREE, "still drought 5 0 = -3", "still drought 5 61 = -3", "still drought 5 -1 = -3",
                "still drought 5 " + LEAST_INT + " = -3", "still drought 5 " + GREATEST_INT + " = -3",
                "drought 5 1 = 0", "count 2 = 1", "drought 5 60 = 0", "count 2 = 61");
    }

    @Says("A DROUGHT: buckets that were drunk. -3: how many HOURS; -5: HOUR would be above 9999.")
    static void promise13_above9999() {
        Calls.run(TWO, TO_9900, "live 40 = 0", "still drought 5 60 = -5", "still drought 5 61 = -3",
                "drought 5 59 = 0", "count 2 = 9999", "still drought 5 1 = -5",
                "still drought 5 0 = -3");
        Calls.run(TWO, TO_9900, "live 39 = 0", "drought 5 60 = 0", "count 2 = 9999");
    }

    @Says("A DROUGHT by a SEED (x, an int; a DRAW: x becomes 1103515245 x + 12345, it is x >>> 16)")
    static void promise13_anySeed() {
        String text = "fly 6;house 9 level 1;house 7 level 1;house 8 level 1 thirst 4095;"
                + "rope 0 1 long 4 at 2;rope 1 2 long 5 at 2;rope 2 0 long 3;rope 1 0 long 3 at 1;";
        int[] seeds = {0, 1, -1, 2, 12345, 65535, 65536, LEAST_INT, GREATEST_INT, -12345};
        for (int seed : seeds) {
            for (int hours = 1; hours <= 60; hours += hours == 1 ? 58 : 1) {
                drawnAsTold(text, NONE_CUT, seed, hours);
            }
        }
    }

    private static final int NONE_CUT = -1;

    @Says("DRAW modulo (how many of its ROPES aren't CUT and 1): 0 none, else the so many-th of these")
    static void promise13_cutRopesAndNoRopes() {
        // House 0 has no rope at all, house 3 one that is cut: they draw, too.
        String text = "fly 6;house 9;house 9 level 1;house 7 level 1;house 6;"
                + "rope 1 2 long 4 at 2;rope 3 2 long 4;rope 2 1 long 5 at 2;rope 1 2 long 3;";
        for (int seed = 0; seed < 20; seed++) {
            drawnAsTold(text, 1, seed * 7919, 30);
            drawnAsTold(text, NONE_CUT, seed * 7919, 30);
        }
        drawnAsTold("house 9;house 9;rope 0 1 long 3;", 0, 1, 60);
        drawnAsTold("house 9;", NONE_CUT, 1, 60);
        drawnAsTold("", NONE_CUT, 1, 60);
    }

    /** The same draws told hour by hour must lead to the same land. */
    private static void drawnAsTold(String text, int cut, int seed, int hours) {
        TwoWells drawn = new TwoWells();
        TwoWells told = new TwoWells();
        for (TwoWells x : new TwoWells[] {drawn, told}) {
            Calls.read(x, text);
            x.cut(cut);
        }
        List<List<Integer>> open = openRopes(told);
        int x = seed;
        int drunk = 0;
        for (int i = 0; i < hours; i++) {
            List<Integer> pulls = new ArrayList<>();
            for (int h = 0; h < open.size(); h++) {
                x = 1103515245 * x + 12345;
                int nth = (x >>> 16) % (open.get(h).size() + 1);
                if (nth > 0) {
                    pulls.add(20 * h + open.get(h).get(nth - 1));
                }
            }
            told.numbers(0, 1, pulls.size());
            for (int k = 0; k < pulls.size(); k++) {
                told.write(0, k, pulls.get(k));
            }
            drunk += told.judge(0, 3);
            told.perform(0);
        }
        String name = "drought by " + seed + " for " + hours;
        Calls.due(text, name, drawn.drought(seed, hours), drunk);
        Calls.due(text, name + ": HOUR", drawn.count(2), hours);
        for (int h = 0; h < open.size(); h++) {
            for (int what = 0; what < 8; what++) {
                Calls.due(text, name + ": house", drawn.house(h, what), told.house(h, what));
            }
        }
        for (int r = 0; r < told.count(1); r++) {
            for (int what = 0; what < 10; what++) {
                Calls.due(text, name + ": rope", drawn.rope(r, what), told.rope(r, what));
            }
        }
    }

    private static List<List<Integer>> openRopes(TwoWells x) {
        List<List<Integer>> open = new ArrayList<>();
        for (int h = 0; h < x.count(0); h++) {
            open.add(new ArrayList<>());
            for (int r = 0; r < x.count(1); r++) {
                if ((x.house(h, 7) >> r & 1) == 1 && x.rope(r, 9) == 0) {
                    open.get(h).add(r);
                }
            }
        }
        return open;
    }
}
