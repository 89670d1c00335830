/** Boundary cases of promises 16 to 24: what is at rest, rings, parts. */
final class RestEdges {
    /** Houses that neither pull nor fill anything. */
    private static final String DRY = "house 0 stock 0;house 0 stock 0;";
    private static final String TO_LAST_HOUR = "times 101 live 99";
    private static final int LEAST_INT = Integer.MIN_VALUE;
    private static final int GREATEST_INT = Integer.MAX_VALUE;

    private RestEdges() {
    }

    private static String land(int houses, int... ends) {
        StringBuilder sb = new StringBuilder("house 1;".repeat(houses));
        for (int i = 0; i + 1 < ends.length; i += 2) {
            sb.append("rope ").append(ends[i]).append(' ').append(ends[i + 1]).append(" long 2;");
        }
        return sb.toString();
    }

    // ---- promises 16 and 17

    @Says("A ROPE RESTS, if its DEPTHS stay as they are in an HOUR without pulls (CUT ones, too).")
    static void promise16_byOneStoneOrNone() {
        String rope = DRY + "rope 0 1 long 4 at ";
        Calls.run(rope + "2;", "still rests = 1");
        Calls.run(rope + "2 stones 1 0;", "still rests = 0");
        Calls.run(rope + "2 stones 0 1;", "rests = 0");
        Calls.run(rope + "2 stones 9 9;", "rests = 1");
        // As far down, or up, as it goes, and one less.
        Calls.run(rope + "3 stones 1 0;", "rests = 0", "pass = 0", "rests = 1");
        Calls.run(rope + "4 stones 1 0;", "rests = 1");
        Calls.run(rope + "4 stones 0 1;", "rests = 0");
        Calls.run(rope + "1 stones 0 1;", "rests = 0", "pass = 0", "rests = 1");
        Calls.run(rope + "0 stones 0 9;", "rests = 1");
        Calls.run(rope + "0 stones 9 0;", "rests = 0");
    }

    @Says("A ROPE RESTS, if its DEPTHS stay as they are in an HOUR without pulls (CUT ones, too).")
    static void promise16_cutOnesToo() {
        Calls.run(DRY + "rope 0 1 long 4 at 2 stones 1 0;rope 0 1 long 4 at 2 stones 1 0;",
                "rests = 0", "cut 1 = 0", "still rests = 2", "cut 0 = 0", "rests = 3");
    }

    @Says("`int rests()`: ROPES that REST, as bits.")
    static void promise16_noneAndSixteen() {
        Calls.run(DRY, "rests = 0");
        Calls.run(DRY + "rope 0 1 long 2;".repeat(16), "rests = 65535", "stones 15 false 1 = 3",
                "rests = 32767", "stones 0 false 1 = 3", "rests = 32766");
        // However strong the houses are: nobody pulls.
        Calls.run("house 20 stock 0;house 20 stock 0;rope 0 1 long 4 at 2;rope 0 1 long 4 at 2 stones 1 0;"
                + "rope 0 1 long 4 at 4 stones 1 0;", "rests = 5", "calm = 2");
        // What fills in that hour moves only in the next one.
        Calls.run("house 0 level 1;house 0 stock 0;rope 0 1 long 4 at 2;", "rests = 1", "pass = 0",
                "rests = 0");
    }

    @Says("`int calm()`: HOURS without pulls till all REST (0: they do).")
    static void promise17_noHourOrNine() {
        Calls.run("", "still calm = 0");
        Calls.run(DRY, "calm = 0");
        String rope = "fly 40;" + DRY + "rope 0 1 long 9 at ";
        for (int depth = 0; depth <= 9; depth++) {
            Calls.run(rope + depth + " stones 1 0;", "still calm = " + (9 - depth));
            Calls.run(rope + depth + " stones 0 1;", "still calm = " + depth);
            Calls.run(rope + depth + ";", "still calm = 0");
        }
        Calls.run(DRY + "rope 0 1 long 9 stones 8 0;", "calm = 1");
        Calls.run(DRY + "rope 0 1 long 9 stones 7 0;", "calm = 9", "cut 0 = 0", "calm = 0");
    }

    @Says("HOURS without pulls till all REST (0: they do).")
    static void promise17_tillAllRest() {
        Calls.run(DRY + "rope 0 1 long 9 at 6 stones 1 0;rope 0 1 long 5 stones 1 0;", "calm = 5",
                "cut 1 = 0", "calm = 3", "cut 0 = 0", "calm = 0");
        // It sinks, fills the other one, and comes back: one hour and eight.
        Calls.run("fly 40;house 0 stock 0;house 0 level 1 stock 1;rope 0 1 long 9 at 7 stones 1 0;",
                "still calm = 9", "pass = 0", "rope 0 3 = 8", "rope 0 6 = 1", "calm = 8");
        // They rest now, though a bucket fills and sinks an hour later.
        Calls.run("house 0 level 1;house 0 stock 0;rope 0 1 long 4 at 2;", "calm = 0", "pass = 0",
                "calm = 2");
    }

    @Says("till all REST (0: they do). NONE: not within 99.")
    static void promise17_asManyHoursAsItSays() {
        // No land seems to swing for so long; many kinds of ropes are tried, with stock or without.
        int[] stones = {0, 1, 4, 5, 6, 9};
        for (int first : stones) {
            for (int second : stones) {
                for (int depth = 0; depth <= 9; depth += 3) {
                    for (int level = 1; level <= 9; level += 4) {
                        calmAsItPasses("house 20 level " + level + " stock 1;house 20 level "
                                + (10 - level) + " stock 2;rope 0 1 long 9 at " + depth + " stones "
                                + first + " " + second + ";rope 1 0 long 5 at 2;");
                    }
                }
            }
        }
    }

    /** Hours go by as many times as calm() says: all rest then, and not ahead of it. */
    private static void calmAsItPasses(String text) {
        TwoWells x = new TwoWells();
        Calls.read(x, text);
        x.pull(0, 0);
        int calm = x.calm();
        Calls.due(text, "calm within 99", calm >= 0 && calm <= 99 ? 1 : 0, 1);
        for (int hour = 0; hour < calm; hour++) {
            Calls.due(text, "all rest in hour " + hour, x.rests() == 3 ? 1 : 0, 0);
            x.pass();
        }
        Calls.due(text, "rests in hour " + calm, x.rests(), 3);
    }

    @Says("HOURS without pulls till all REST (0: they do).")
    static void promise17_atTheLastHour() {
        Calls.run(DRY + "rope 0 1 long 9;", TO_LAST_HOUR, "stones 0 false 1 = 3", "still calm = 9",
                "count 2 = 9999");
    }

    // ---- promise 18

    @Says("EVEN: how many stones must come to lighter buckets so that both buckets of each ROPE that isn't CUT weigh the same.")
    static void promise18_noneToAll() {
        Calls.run("", "still even = 0");
        Calls.run(DRY + "rope 0 1 long 2 stones 9 9;", "even = 0");
        Calls.run(DRY + "rope 0 1 long 2 stones 9 0;", "even = 9");
        Calls.run(DRY + "rope 0 1 long 2 stones 0 9;", "even = 9");
        Calls.run(DRY + "rope 0 1 long 2 stones 0 1;rope 0 1 long 2 stones 1 0;", "still even = 2",
                "cut 0 = 0", "still even = 1", "cut 1 = 0", "even = 0");
        Calls.run(DRY + "rope 0 1 long 2 stones 9 0;".repeat(16), "even = 144", "cut 15 = 0",
                "even = 135");
    }

    @Says("EVEN: how many stones must come to lighter buckets")
    static void promise18_fullOnesToo() {
        Calls.run("full 9;house 0 level 1;house 0 stock 0;rope 0 1 long 2 at 1 stones 9 0;",
                "even = 9", "pass = 0", "rope 0 7 = 20", "even = 18", "stones 0 true 9 = 11",
                "even = 9", "stones 0 false 0 = 11", "even = 0");
        // Both are full: it is even again.
        Calls.run("house 0 level 1;house 0 level 1;rope 0 1 long 2 at 1;", "even = 0", "pass = 0",
                "count 6 = 2", "even = 0");
    }

    // ---- promise 19

    @Says("Whether a HOUSE could raise its bucket of a ROPE, if it alone pulled: 1, 0.")
    static void promise19_strengthToTheLeast() {
        for (int strength = 0; strength <= 20; strength++) {
            String houses = "house " + strength + " stock 0;house 20 stock 0;";
            int can = strength > 9 ? 1 : 0;
            Calls.run(houses + "rope 0 1 long 4 at 2 stones 9 0;", "still lifts 0 0 = " + can);
            Calls.run(houses + "rope 1 0 long 4 at 2 stones 0 9;", "still lifts 0 0 = " + can);
        }
        String even = "house 0 stock 0;house 1 stock 0;rope 0 1 long 4 at 2";
        Calls.run(even + ";", "lifts 0 0 = 0", "lifts 1 0 = 1");
        // One that rises by itself is raised by no strength at all, too.
        Calls.run(even + " stones 0 1;", "lifts 0 0 = 1", "lifts 1 0 = 0");
        Calls.run(even + " stones 0 2;", "lifts 0 0 = 1", "lifts 1 0 = 0");
    }

    @Says("Whether a HOUSE could raise its bucket of a ROPE, if it alone pulled: 1, 0.")
    static void promise19_aBucketThatIsUp() {
        String rope = "house 20 stock 0;house 20 stock 0;rope 0 1 long 4 at ";
        Calls.run(rope + "0;", "lifts 0 0 = 0", "lifts 1 0 = 1");
        Calls.run(rope + "1;", "lifts 0 0 = 1", "lifts 1 0 = 1");
        Calls.run(rope + "3;", "lifts 0 0 = 1", "lifts 1 0 = 1");
        Calls.run(rope + "4;", "lifts 0 0 = 1", "lifts 1 0 = 0");
    }

    @Says("Whether a HOUSE could raise its bucket of a ROPE, if it alone pulled: 1, 0.")
    static void promise19_eachOfThree() {
        Calls.run("house 9 stock 0;house 1 stock 0;house 5 stock 0;rope 0 1 long 4 at 2 stones 3 3;"
                + "rope 2 0 long 4 at 2 stones 6 0;rope 1 2 long 4 at 4 stones 0 1;",
                "lifts 0 0 = 1", "lifts 1 0 = 1", "lifts 2 1 = 0", "lifts 0 1 = 1", "lifts 1 2 = 1",
                "lifts 2 2 = 0", "stones 1 false 4 = 6", "lifts 2 1 = 1", "stones 1 true 9 = 11",
                "lifts 0 1 = 1", "stones 2 false 2 = 4", "lifts 1 2 = 0");
    }

    @Says("-2: the HOUSE, ROPE, not one of its ROPES; -5: it is CUT.")
    static void promise19_noSuchHouseOrRope() {
        Calls.run(land(3, 0, 1, 1, 2), "still lifts 3 0 = -2", "still lifts -1 0 = -2",
                "still lifts 0 2 = -2", "still lifts 0 -1 = -2", "still lifts 2 0 = -2",
                "still lifts 0 1 = -2", "lifts " + LEAST_INT + " 0 = -2",
                "lifts " + GREATEST_INT + " 0 = -2", "lifts 0 " + LEAST_INT + " = -2",
                "lifts 0 " + GREATEST_INT + " = -2", "lifts 1 0 = 1", "cut 0 = 0",
                "still lifts 0 0 = -5", "still lifts 1 0 = -5", "still lifts 2 0 = -2",
                "still lifts 3 0 = -2", "lifts 2 1 = 1");
        // It asks of strength, not of the hour.
        Calls.run("house 1 stock 0;house 1 stock 0;rope 0 1 long 2;", TO_LAST_HOUR,
                "still lifts 1 0 = 1");
    }

    // ---- promise 20

    @Says("TOGETHER: the greatest set of HOUSES no two of which have a ROPE (not CUT) in common")
    static void promise20_noneAndAll() {
        Calls.run("", "still together = 0");
        Calls.run(land(1), "together = 1");
        Calls.run(land(10), "still together = 1023");
        Calls.run(land(10, 0, 9), "together = 511", "cut 0 = 0", "together = 1023");
        Calls.run(land(2, 0, 1, 1, 0), "together = 1", "cut 0 = 0", "together = 1", "cut 1 = 0",
                "together = 3");
    }

    @Says("of like ones the least as bits")
    static void promise20_theLeastOfLikeOnes() {
        Calls.run(land(4, 0, 1, 1, 2, 2, 3, 3, 0), "together = 5");
        Calls.run(land(4, 0, 1, 1, 2, 2, 3), "together = 5");
        Calls.run(land(4, 2, 0, 0, 1, 1, 3), "together = 6");
        Calls.run(land(6, 0, 1, 1, 2, 2, 3, 3, 4, 4, 5, 5, 0), "together = 21");
        Calls.run(land(10, 0, 1, 2, 3, 4, 5, 6, 7, 8, 9), "together = 341");
        // The greatest one, though there are lesser bits.
        Calls.run(land(4, 0, 1, 0, 2, 0, 3), "together = 14");
        Calls.run(land(4, 1, 0, 2, 0, 3, 0), "together = 14");
    }

    // ---- promise 21

    @Says("PARTED: a set of HOUSES so that each ROPE (not CUT) has one end in it and one not")
    static void promise21_oddRings() {
        Calls.run(land(3, 0, 1, 1, 2, 2, 0), "still parted = -1", "cut 2 = 0", "still parted = 5");
        Calls.run(land(4, 0, 1, 1, 2, 2, 3, 3, 0), "parted = 5");
        Calls.run(land(5, 0, 1, 1, 2, 2, 3, 3, 4, 4, 0), "parted = -1", "cut 0 = 0", "parted = 11");
        Calls.run(land(9, 0, 1, 1, 2, 2, 3, 3, 4, 4, 5, 5, 6, 6, 7, 7, 8, 8, 0), "parted = -1",
                "cut 8 = 0", "parted = 341");
        Calls.run(land(2, 0, 1, 1, 0), "parted = 1");
        // One odd ring somewhere is enough, even of the last houses.
        Calls.run(land(10, 0, 1, 7, 8, 8, 9, 9, 7), "parted = -1");
    }

    @Says("of those the set that has of each part of HOUSES that hang together the least HOUSE")
    static void promise21_theLeastOfEachPart() {
        Calls.run("", "parted = 0");
        Calls.run(land(1), "parted = 1");
        Calls.run(land(10), "parted = 1023");
        Calls.run(land(10, 9, 0), "parted = 511", "cut 0 = 0", "parted = 1023");
        Calls.run(land(5, 0, 4, 3, 2, 3, 2), "parted = 7");
        Calls.run(land(4, 3, 2, 2, 1), "parted = 11");
    }

    // ---- promise 22

    @Says("RING: the fewest ROPES (not CUT) of a way from a HOUSE back to it without a ROPE twice.")
    static void promise22_twoToTen() {
        Calls.run("", "still ring = -1");
        Calls.run(land(2, 0, 1), "ring = -1");
        Calls.run(land(2, 0, 1, 0, 1), "still ring = 2", "cut 1 = 0", "ring = -1");
        Calls.run(land(2, 0, 1, 1, 0), "ring = 2", "cut 0 = 0", "ring = -1");
        for (int n = 3; n <= 10; n++) {
            int[] ends = new int[2 * n];
            for (int i = 0; i < n; i++) {
                ends[2 * i] = i;
                ends[2 * i + 1] = (i + 1) % n;
            }
            Calls.run(land(n, ends), "ring = " + n, "cut " + (n - 1) + " = 0", "ring = -1");
        }
    }

    @Says("RING: the fewest ROPES (not CUT) of a way from a HOUSE back to it without a ROPE twice.")
    static void promise22_theFewestOfSome() {
        // Rings of 4, 3 and 2, each cut in turn.
        Calls.run(land(9, 0, 1, 1, 2, 2, 3, 3, 0, 4, 5, 5, 6, 6, 4, 7, 8, 8, 7), "ring = 2",
                "cut 8 = 0", "ring = 3", "cut 5 = 0", "ring = 4", "cut 0 = 0", "ring = -1");
        // The least one is the first one that is told.
        Calls.run(land(9, 7, 8, 8, 7, 4, 5, 5, 6, 6, 4, 0, 1, 1, 2, 2, 3, 3, 0), "ring = 2",
                "cut 0 = 0", "ring = 3", "cut 2 = 0", "ring = 4", "cut 5 = 0", "ring = -1");
        Calls.run(land(4, 0, 1, 1, 2, 2, 3), "ring = -1");
        Calls.run(land(4, 1, 0, 2, 0, 3, 0), "ring = -1");
    }

    // ---- promises 23 and 24

    @Says("HOUSES that hang together with one by ROPES that aren't CUT, as bits. -2.")
    static void promise23_oneToAll() {
        int[] chain = {0, 1, 1, 2, 2, 3, 3, 4, 4, 5, 5, 6, 6, 7, 7, 8, 8, 9};
        Calls.run(land(10, chain), "still neighbours 0 = 1023", "neighbours 9 = 1023", "cut 4 = 0",
                "neighbours 0 = 31", "neighbours 4 = 31", "neighbours 5 = 992", "neighbours 9 = 992",
                "cut 8 = 0", "neighbours 9 = 512", "neighbours 8 = 480");
        Calls.run(land(1), "neighbours 0 = 1");
        Calls.run(land(5, 1, 0, 2, 0, 3, 0), "neighbours 0 = 15", "neighbours 2 = 15",
                "neighbours 4 = 16", "cut 1 = 0", "neighbours 0 = 11", "neighbours 2 = 4");
        // By the last rope of a row that goes from the greatest numbers to the least.
        Calls.run(land(10, 9, 8, 8, 7, 7, 6, 6, 5, 5, 4, 4, 3, 3, 2, 2, 1, 1, 0), "neighbours 0 = 1023",
                "neighbours 5 = 1023");
    }

    @Says("HOUSES that hang together with one by ROPES that aren't CUT, as bits. -2.")
    static void promise23_noSuchHouse() {
        Calls.run(land(10, 0, 9), "still neighbours 10 = -2", "still neighbours -1 = -2",
                "neighbours " + LEAST_INT + " = -2", "neighbours " + GREATEST_INT + " = -2",
                "neighbours 9 = 513");
        Calls.run("", "neighbours 0 = -2");
    }

    @Says("How many more parts there would be, if a ROPE were CUT (0, 1).")
    static void promise24_noneOrOne() {
        Calls.run(land(2, 0, 1), "still severs 0 = 1");
        Calls.run(land(2, 0, 1, 1, 0), "still severs 0 = 0", "severs 1 = 0", "cut 0 = 0",
                "severs 1 = 1");
        Calls.run(land(5, 0, 1, 0, 1, 2, 3, 4, 3), "severs 0 = 0", "severs 1 = 0", "severs 2 = 1",
                "severs 3 = 1");
        Calls.run(land(4, 0, 1, 2, 3, 3, 2), "severs 0 = 1", "severs 1 = 0", "severs 2 = 0");
        Calls.run(land(4, 0, 1, 1, 2, 2, 0, 2, 3), "severs 0 = 0", "severs 1 = 0", "severs 2 = 0",
                "severs 3 = 1", "cut 0 = 0", "severs 1 = 1", "severs 2 = 1");
        Calls.run(land(10, 0, 1, 1, 2, 2, 3, 3, 4, 4, 5, 5, 6, 6, 7, 7, 8, 8, 9, 9, 0),
                "severs 9 = 0", "cut 0 = 0", "severs 9 = 1");
    }

    @Says("How many more parts there would be, if a ROPE were CUT (0, 1). -2; -5: it is.")
    static void promise24_noSuchRopeOrCut() {
        Calls.run(land(2) + "rope 0 1 long 2;".repeat(16), "still severs 16 = -2",
                "still severs -1 = -2", "severs " + LEAST_INT + " = -2",
                "severs " + GREATEST_INT + " = -2", "severs 15 = 0", "cut 15 = 0",
                "still severs 15 = -5", "still severs 14 = 0", "still severs 16 = -2");
        Calls.run(land(2), "severs 0 = -2");
    }
}
