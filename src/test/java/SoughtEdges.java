/** Boundary cases of promises 25 to 33: what is sought, who lives where, what was seen. */
final class SoughtEdges {
    private static final String TO_LAST_HOUR = "times 101 live 99";
    private static final int LEAST_INT = Integer.MIN_VALUE;
    private static final int GREATEST_INT = Integer.MAX_VALUE;
    /** House 1 pulls house 0's bucket down to its water, house 0 pulls it up, each in an hour. */
    private static final String SLOW = "house 9 level 1;house 1;rope 0 1 long 2;";
    /**
     * Each of two ropes can hang in 10 ways, the third one with its water in 30, whatever the others
     * do: 3,000 states, with the one now.
     */
    private static final String THREE_THOUSAND = "house 1 stock 0;house 1 stock 0;"
            + "house 6 level 1 stock 2;house 1 stock 0;rope 0 1 long 9;rope 0 1 long 9;rope 2 3 long 9";

    private SoughtEdges() {
    }

    private static String houses(int n) {
        return "house 1;".repeat(n);
    }

    private static String land(int houses, int... ends) {
        StringBuilder sb = new StringBuilder(houses(houses));
        for (int i = 0; i + 1 < ends.length; i += 2) {
            sb.append("rope ").append(ends[i]).append(' ').append(ends[i + 1]).append(" long 2;");
        }
        return sb.toString();
    }

    // ---- promise 25

    @Says("SOONEST for a HOUSE and n (1 to 3)")
    static void promise25_oneToThree() {
        Calls.run(SLOW, "still soonest 0 1 = 2", "still soonest 0 2 = 4", "still soonest 0 3 = 6",
                "still soonest 0 0 = -3", "still soonest 0 4 = -3", "still soonest 0 -1 = -3",
                "soonest 0 " + LEAST_INT + " = -3", "soonest 0 " + GREATEST_INT + " = -3");
    }

    @Says("the fewest HOURS behind which it HAS n more, whoever pulls")
    static void promise25_nMoreThanNow() {
        // It has one already; the next one is full and just below.
        Calls.run("fly 40;house 9 level 1;house 1 stock 0;rope 0 1 long 2 at 1;", "pass = 0",
                "soonest 0 1 = 1", "pull 0 0 = 1", "soonest 0 1 = 2", "pull 1 0 = 0",
                "soonest 0 1 = 1", "soonest 0 2 = 3");
        // Three at once are one more, two more and three more.
        Calls.run("fly 40;house 0 level 1;house 0 stock 0;" + "rope 0 1 long 2 at 2 stones 0 9;".repeat(3),
                "soonest 0 1 = 2", "soonest 0 2 = 2", "soonest 0 3 = 2");
        Calls.run(SLOW, TO_LAST_HOUR, "soonest 0 1 = 2");
        // Second buckets that are full now, of the first rope, the second and the third.
        for (int r = 0; r < 3; r++) {
            String open = "rope 1 0 long 2 at 1;";
            String cut = "rope 2 3 long 9;";
            Calls.run("fly 40;house 9 level 1 stock 1;house 0 stock 0;house 1 stock 0;house 1 stock 0;"
                    + cut.repeat(r) + open + cut.repeat(2 - r), "soonest 0 1 = 2", "pass = 0",
                    "rope " + r + " 6 = 1", "soonest 0 1 = 1", "soonest 0 2 = -1", "cheapest 0 1 = 1");
        }
        // Likewise first buckets: it takes as long as it is deep.
        for (int r = 0; r < 3; r++) {
            String other = "rope 0 2 long 3;";
            Calls.run("fly 40;house 9 level 3 stock 1;house 0 stock 0;house 0 stock 0;" + other.repeat(r)
                    + "rope 0 1 long 3 at 3;" + other.repeat(2 - r), "soonest 0 1 = 4", "pass = 0",
                    "rope " + r + " 5 = 1", "soonest 0 1 = 3", "soonest 0 2 = -1", "cheapest 0 3 = 3",
                    "cheapest 0 2 = -1");
        }
    }

    @Says("In an HOUR each HOUSE pulls one of its ROPES, or none.")
    static void promise25_oneRopeAnHour() {
        // While one bucket is raised, the other one sinks: they can't both come in one hour.
        String one = "fly 40;house 9 level 1;house 0 level 9;house 0 level 9;rope 0 1 long 2 at 1;"
                + "rope 0 2 long 2 at 1;";
        Calls.run(one, "pass = 0", "count 6 = 2", "soonest 0 1 = 1", "soonest 0 2 = 3",
                "cheapest 0 1 = 1");
        // Whatever was sought in another land ahead.
        Calls.run(land(4, 0, 1, 2, 3, 1, 2), "soonest 0 1 = -1", "cheapest 3 6 = -1",
                "read " + one + " = 6", "pass = 0", "soonest 0 2 = 3");
    }

    @Says("NONE, if there are no new ones.")
    static void promise25_never() {
        Calls.run(SLOW, "soonest 1 1 = -1", "cut 0 = 0", "still soonest 0 1 = -1");
        Calls.run("house 9;", "soonest 0 1 = -1");
        for (int stock = 0; stock <= 3; stock++) {
            Calls.run("house 9 level 1 stock " + stock + ";house 1;rope 0 1 long 2;",
                    "soonest 0 1 = " + (stock > 0 ? 2 : -1), "soonest 0 2 = " + (stock > 1 ? 4 : -1),
                    "soonest 0 3 = " + (stock > 2 ? 6 : -1));
        }
        // Too weak by one, and just strong enough.
        Calls.run("house 5 level 1;house 1 stock 0;rope 0 1 long 2;", "soonest 0 1 = -1");
        Calls.run("house 6 level 1;house 1 stock 0;rope 0 1 long 2;", "soonest 0 1 = 2");
    }

    @Says("whoever pulls; at most 4 HOUSES and 3 ROPES that aren't CUT")
    static void promise25_fourHousesThreeRopes() {
        Calls.run(land(4, 0, 1, 1, 2, 2, 3), "soonest 0 1 = -1", "soonest 3 3 = -1");
        Calls.run(land(5), "still soonest 0 1 = -4", "soonest 4 1 = -4");
        Calls.run(land(4), "soonest 3 1 = -1");
        Calls.run(land(4, 0, 1, 1, 2, 2, 3, 3, 0), "still soonest 0 1 = -4", "cut 2 = 0",
                "soonest 0 1 = -1");
        Calls.run(land(2) + "rope 0 1 long 2;".repeat(16), "times 12 pass", "cut 15 = 0", "cut 0 = 0",
                "cut 1 = 0", "cut 2 = 0", "cut 3 = 0", "cut 4 = 0", "cut 5 = 0", "cut 6 = 0",
                "cut 7 = 0", "cut 8 = 0", "cut 9 = 0", "cut 10 = 0", "still soonest 0 1 = -4",
                "cut 11 = 0", "soonest 0 1 = -1");
    }

    @Says("SPENT (-4), if more than 3,000 STATES were met by then (the one now, too)")
    static void promise25_threeThousandStates() {
        Calls.run(THREE_THOUSAND + ";", "soonest 0 1 = -1", "soonest 2 1 = 2");
        // As the bucket fills in any case, it can't be as it is now again: one state more.
        Calls.run(THREE_THOUSAND + " at 1;", "still soonest 0 1 = -4", "soonest 2 1 = 2", "pass = 0",
                "soonest 0 1 = -1");
    }

    @Says("behind each HOUR in which n isn't reached: SPENT (-4)")
    static void promise25_reachedAsTheStatesAreTooMany() {
        // Behind hour 5 there were 1,618 states, behind hour 6 there are 3,140.
        Calls.run("full 1;house 14 level 1;house 7 level 1;house 11 level 1;house 6 level 2;"
                + "rope 1 0 long 6 at 6;rope 3 0 long 4;rope 0 2 long 9;", "soonest 1 1 = 6");
        // 3,001 states behind hour 5: that it comes in hour 6 isn't found any more.
        Calls.run("fly 13;full 1;house 15 level 2;house 18 level 1;house 8 level 1;house 6 level 1;"
                + "rope 3 1 long 6 at 6 stones 1 0;rope 0 2 long 5 at 3;rope 0 1 long 4 at 1;",
                "soonest 3 1 = -4", "cheapest 3 6 = 6");
    }

    @Says("SOONEST. NONE: never; -2: the HOUSE; -3: n; -4: SPENT, or too many HOUSES, ROPES.")
    static void promise25_whichCodeComesFirst() {
        Calls.run(land(5, 0, 1, 0, 1, 0, 1, 0, 1), "still soonest 5 0 = -2", "still soonest -1 4 = -2",
                "soonest 5 1 = -2", "still soonest 4 0 = -3", "still soonest 4 4 = -3",
                "still soonest 4 3 = -4", "soonest " + LEAST_INT + " 1 = -2",
                "soonest " + GREATEST_INT + " 1 = -2");
        Calls.run("", "soonest 0 1 = -2");
    }

    // ---- promise 26

    @Says("-2: the HOUSE, ROPE; -5: it is CUT; SOONEST now: -4, or -5: never; then: -4, or NONE: never.")
    static void promise26_noSuchHouseOrRope() {
        Calls.run(land(5, 0, 1), "still loss 5 0 = -2", "still loss -1 0 = -2", "still loss 0 1 = -2",
                "still loss 0 -1 = -2", "still loss 5 1 = -2", "loss " + LEAST_INT + " 0 = -2",
                "loss " + GREATEST_INT + " 0 = -2", "loss 0 " + LEAST_INT + " = -2",
                "loss 0 " + GREATEST_INT + " = -2", "still loss 0 0 = -4", "cut 0 = 0",
                "still loss 0 0 = -5", "still loss 5 0 = -2", "still loss 0 1 = -2");
    }

    @Says("SOONEST now: -4, or -5: never")
    static void promise26_now() {
        Calls.run(land(4, 0, 1, 0, 1, 0, 1, 0, 1), "still loss 0 0 = -4", "cut 3 = 0",
                "still loss 0 0 = -5", "still loss 0 3 = -5");
        Calls.run(THREE_THOUSAND + ";", "loss 0 2 = -5");
        Calls.run(THREE_THOUSAND + " at 1;", "loss 0 2 = -4");
        Calls.run(SLOW, "loss 1 0 = -5");
    }

    @Says("then: -4, or NONE: never.")
    static void promise26_then() {
        Calls.run(SLOW, "still loss 0 0 = -1");
        // House 0 has water in two hours by its rope, without it the others swing on and on.
        Calls.run("house 9 level 1;house 1;house 9 level 1;house 9 level 1;rope 0 1 long 2;"
                + "rope 2 3 long 9;rope 3 2 long 9;", "soonest 0 1 = 2", "still loss 0 0 = -4",
                "loss 0 1 = 0", "loss 0 2 = 0", "cut 0 = 0", "soonest 0 1 = -4");
    }

    @Says("By how many HOURS SOONEST for a HOUSE and 1 is later, if a ROPE were CUT.")
    static void promise26_laterOrNot() {
        Calls.run("fly 40;house 9 level 1;house 1;house 0;rope 0 1 long 2;rope 0 2 long 4 at 4;",
                "still loss 0 0 = 2", "still loss 0 1 = 0", "cut 1 = 0", "loss 0 0 = -1");
        Calls.run("house 9 level 1;house 1;rope 0 1 long 2;rope 0 1 long 2;", "loss 0 0 = 0",
                "loss 0 1 = 0");
    }

    // ---- promise 27

    @Says("CHEAPEST for a HOUSE within m HOURS (1 to 6)")
    static void promise27_oneToSixHours() {
        Calls.run(SLOW, "still cheapest 0 1 = -1", "still cheapest 0 2 = 2", "still cheapest 0 6 = 2",
                "still cheapest 0 0 = -3", "still cheapest 0 7 = -3", "still cheapest 0 -1 = -3",
                "cheapest 0 " + LEAST_INT + " = -3", "cheapest 0 " + GREATEST_INT + " = -3");
        // It fills on its way up, one hour for each step of it.
        for (int length = 2; length <= 7; length++) {
            Calls.run("fly 40;house 9 level 1;house 0 stock 0;rope 0 1 long " + length + " at " + length
                    + ";", "cheapest 0 " + (length - 1) + " = -1",
                    "cheapest 0 " + length + " = " + (length < 7 ? length : -3));
        }
    }

    @Says("the fewest pulls in all (of all HOUSES, HOUR by HOUR) by which it HAS one more behind so many HOURS or fewer")
    static void promise27_fewestPulls() {
        // By itself it comes in two hours, without a pull.
        Calls.run("fly 40;house 1 level 1;house 0 stock 0;rope 0 1 long 3 at 2 stones 0 9;",
                "cheapest 0 1 = -1", "cheapest 0 2 = 0", "cheapest 0 6 = 0");
        // It sinks by itself in two hours, or flies down by a pull in one.
        Calls.run("fly 5;house 20 level 2;house 5 stock 0;rope 0 1 long 4 stones 1 0;",
                "cheapest 0 1 = -1", "cheapest 0 2 = 2", "cheapest 0 3 = 1", "cheapest 0 6 = 1",
                "soonest 0 1 = 2");
        // The same state comes by five pulls first, and by four later on.
        Calls.run("fly 3;house 6 level 2;house 12 level 2;rope 0 1 long 4;", "cheapest 0 3 = -1",
                "cheapest 0 4 = 4");
        Calls.run(SLOW, "cheapest 0 1 = -1", "cheapest 1 6 = -1", "cut 0 = 0", "cheapest 0 6 = -1");
        Calls.run("house 9 level 1;house 1;rope 0 1 long 2 at 1;", "cheapest 0 1 = -1", "pass = 0",
                "cheapest 0 1 = 1", TO_LAST_HOUR, "cheapest 0 1 = -1", "cheapest 0 2 = 2");
    }

    @Says("if behind some HOUR (but the last) there can be more than 3,000 STATES (n being 1; those in which it HAS one more already aside)")
    static void promise27_threeThousandStates() {
        // Exactly 3,000 behind hour 5, and 533 more in which house 2 has one more already.
        Calls.run("fly 9;full 1;house 18 level 2;house 11 level 1;house 9 level 2;house 15 level 2;"
                + "rope 1 2 long 8 at 7;rope 1 3 long 8 at 4;rope 3 0 long 5 at 3;",
                "still cheapest 2 6 = 3");
        // Exactly 3,001 behind hour 5: for five hours that is the last one.
        Calls.run("full 2;house 16 level 1;house 6 level 1;house 6 level 2;house 9 level 1;"
                + "rope 1 2 long 6 at 2;rope 0 3 long 9 at 6;rope 3 1 long 8 at 3;",
                "still cheapest 2 6 = -4", "still cheapest 2 5 = 4", "cheapest 2 4 = 4",
                "cheapest 2 3 = -1");
    }

    @Says("CHEAPEST. NONE: it can't be; -2: the HOUSE; -3: m; -4: SPENT, or too many HOUSES, ROPES.")
    static void promise27_whichCodeComesFirst() {
        Calls.run(land(5, 0, 1), "still cheapest 5 0 = -2", "still cheapest -1 7 = -2",
                "still cheapest 4 0 = -3", "still cheapest 4 7 = -3", "still cheapest 4 6 = -4",
                "cheapest " + LEAST_INT + " 1 = -2", "cheapest " + GREATEST_INT + " 1 = -2");
        Calls.run(land(4, 0, 1, 0, 1, 0, 1, 2, 3), "still cheapest 0 1 = -4", "cut 1 = 0",
                "cheapest 0 1 = -1");
        Calls.run(land(4), "cheapest 3 1 = -1");
    }

    // ---- promise 28

    /** In the first hour house 0's bucket fills, in the second one it can be drunk. */
    private static final String ALONE = "fly 40;house 9 level 1;house 0;rope 0 1 long 2 at 1;";

    @Says("ALONE for a HOUSE and n HOURS (1 to 7)")
    static void promise28_oneToSevenHours() {
        Calls.run(ALONE, "still alone 0 1 0 = 0", "still alone 0 2 0 = 1", "still alone 0 7 0 = 1",
                "still alone 0 0 0 = -3", "still alone 0 8 0 = -3", "still alone 0 -1 0 = -3",
                "alone 0 " + LEAST_INT + " 0 = -3", "alone 0 " + GREATEST_INT + " 0 = -3");
        // The seventh hour counts: it takes just as long.
        Calls.run("fly 40;house 9 level 1;house 0 stock 0;rope 0 1 long 7 at 7;", "alone 0 6 0 = 0",
                "alone 0 7 0 = 1", "alone 0 7 10 = 0", "alone 0 7 16 = 0", "pass = 0",
                "alone 0 7 0 = 1", "pass = 0", "alone 0 7 0 = 1");
        Calls.run(ALONE, TO_LAST_HOUR, "alone 0 3 0 = 1");
    }

    @Says("10 + k: the ROPE it pulls in the k-th of these HOURS (NONE: none; -7: not so many)")
    static void promise28_theHoursOfTheRow() {
        Calls.run(ALONE, "alone 0 2 10 = -1", "alone 0 2 11 = 0", "alone 0 3 12 = -1");
        for (int n = 1; n <= 7; n++) {
            for (int k = 0; k < 7; k++) {
                // From four hours on there is time to let it sink first.
                boolean pulls = n > 3 ? k >= n - 2 : n > 1 && k == 1;
                int due = k >= n ? -7 : pulls ? 0 : -1;
                Calls.run(ALONE, "alone 0 " + n + " " + (10 + k) + " = " + due);
            }
        }
        Calls.run(ALONE, "still alone 0 1 11 = -7", "still alone 0 6 16 = -7", "still alone 0 7 16 = 0");
    }

    @Says("of like ones the first row of what it pulls (none ahead of all ROPES)")
    static void promise28_theFirstRow() {
        Calls.run("fly 40;house 9 level 1;house 0 stock 0;rope 0 1 long 2 at 1;rope 0 1 long 2 at 1;",
                "alone 0 2 0 = 1", "alone 0 2 10 = -1", "alone 0 2 11 = 0", "cut 0 = 0",
                "alone 0 2 0 = 1", "alone 0 2 11 = 1");
        // It comes by itself, or not at all: no pull.
        Calls.run("fly 40;house 9 level 1;house 0 stock 0;rope 0 1 long 2 at 2 stones 0 9;",
                "alone 0 2 0 = 1", "alone 0 2 10 = -1", "alone 0 2 11 = -1");
        Calls.run("house 9;house 9;rope 0 1 long 2;", "alone 0 7 0 = 0", "alone 0 7 10 = -1",
                "alone 0 7 16 = -1");
    }

    @Says("the most buckets it can HAVE more behind these, if it alone pulls")
    static void promise28_moreThanNow() {
        // House 2 has one already; one bucket is full, and there is no stock any more.
        String text = "fly 40;house 0 stock 0;house 0 stock 0;house 9 level 1 stock 2;"
                + "rope 0 1 long 2 at 1;rope 2 0 long 2 at 1;rope 1 2 long 3 at 1;";
        Calls.run(text, "alone 2 2 0 = 1", "alone 2 7 0 = 2", "pass = 0", "house 2 2 = 0",
                "alone 2 1 0 = 1", "alone 2 1 10 = 1", "pull 2 1 = 1", "house 2 4 = 1",
                "alone 2 1 0 = 0", "alone 2 2 0 = 0", "alone 2 3 0 = 1", "alone 2 3 10 = 2",
                "alone 2 7 0 = 1", "alone 0 7 0 = 0", "alone 1 7 0 = 0", "cut 1 = 0",
                "alone 2 3 0 = 1", "cut 2 = 0", "alone 2 7 0 = 0");
        // Ropes of others that are cut take nothing from it.
        Calls.run("fly 40;house 9 level 1;house 0 stock 0;house 0 stock 0;rope 1 2 long 2;"
                + "rope 0 1 long 2 at 2;" + "rope 1 2 long 2;".repeat(3), "cut 2 = 0", "cut 4 = 0",
                "alone 0 2 0 = 1", "alone 0 2 10 = 1", "alone 0 2 11 = 1", "cut 0 = 0", "cut 3 = 0",
                "alone 0 2 0 = 1");
        // As often as can be: down by the stone, up by a pull, in each hour but the first.
        Calls.run("fly 1;house 20 level 1;house 0 stock 0;rope 0 1 long 2 stones 1 0;",
                "alone 0 1 0 = 0", "alone 0 2 0 = 1", "alone 0 3 0 = 1", "alone 0 4 0 = 2",
                "alone 0 6 0 = 3", "alone 0 7 0 = 3", "pass = 0", "alone 0 1 0 = 1",
                "alone 0 7 0 = 4", "pass = 0", "alone 0 7 0 = 4");
        // No more than there is stock for.
        for (int stock = 0; stock <= 4; stock++) {
            Calls.run("fly 1;house 20 level 1 stock " + stock + ";house 0 stock 0;"
                    + "rope 0 1 long 2 stones 1 0;", "alone 0 6 0 = " + Math.min(stock, 3));
        }
    }

    @Says("if it alone pulls (at most 3 of its ROPES aren't CUT)")
    static void promise28_threeRopes() {
        String three = "house 9 level 1;" + houses(9) + "rope 0 1 long 2;rope 2 0 long 2;rope 0 3 long 2;";
        Calls.run(three, "alone 0 7 0 = 1");
        Calls.run(three + "rope 0 9 long 2;", "still alone 0 1 0 = -4", "alone 9 1 0 = 0",
                "alone 8 1 0 = 0", "cut 3 = 0", "alone 0 7 0 = 1");
        // Ropes of others are not counted.
        Calls.run(three + "rope 4 5 long 2;".repeat(13), "alone 0 7 0 = 1", "still alone 4 1 0 = -4");
    }

    @Says("-2: the HOUSE, what (10 to 16); -3: n; -4: more than 3 ROPES.")
    static void promise28_whichCodeComesFirst() {
        Calls.run(land(2, 0, 1, 0, 1, 0, 1, 0, 1), "still alone 2 0 0 = -2", "still alone -1 8 0 = -2",
                "still alone 0 0 9 = -2", "still alone 0 8 17 = -2", "still alone 0 1 1 = -2",
                "still alone 0 1 -1 = -2", "alone 0 1 " + LEAST_INT + " = -2",
                "alone 0 1 " + GREATEST_INT + " = -2", "alone " + LEAST_INT + " 1 0 = -2",
                "alone " + GREATEST_INT + " 1 0 = -2", "still alone 0 0 0 = -3",
                "still alone 0 8 16 = -3", "still alone 0 7 0 = -4", "still alone 0 7 16 = -4");
    }

    // ---- promise 29

    @Says("that whose THIRST has the fewest HOURS with its in common, the first")
    static void promise29_noneToTwelveInCommon() {
        Calls.run("house 0 thirst 4095;house 0 thirst 4095;", "still mate 0 = 1", "still mate 1 = 0");
        Calls.run("house 0 thirst 4095;house 0 thirst 4095;house 0 thirst 4094;", "mate 0 = 2",
                "mate 1 = 2", "mate 2 = 0");
        Calls.run("house 0 thirst 2048;house 0 thirst 4095;house 0 thirst 2047;house 0;", "mate 0 = 2",
                "mate 1 = 3", "mate 2 = 0", "mate 3 = 0");
        // Of ten that are alike the first, but never the house itself.
        Calls.run(houses(10), "mate 0 = 1", "mate 1 = 0", "mate 9 = 0");
    }

    @Says("MATE of a HOUSE: of HOUSES with no ROPE (not CUT) in common with it")
    static void promise29_none() {
        Calls.run(houses(1), "still mate 0 = -1");
        Calls.run(land(2, 1, 0), "mate 0 = -1", "mate 1 = -1", "cut 0 = 0", "mate 0 = 1", "mate 1 = 0");
        Calls.run(land(2, 1, 0, 0, 1), "cut 0 = 0", "mate 0 = -1");
        // In common with it, not by way of another one.
        Calls.run(land(3, 0, 1, 1, 2), "mate 0 = 2", "mate 1 = -1", "mate 2 = 0");
    }

    @Says("`int mate(int h)`: MATE. NONE: there is none; -2.")
    static void promise29_noSuchHouse() {
        Calls.run(houses(10), "still mate 10 = -2", "still mate -1 = -2", "mate " + LEAST_INT + " = -2",
                "mate " + GREATEST_INT + " = -2");
    }

    // ---- promises 30 and 31

    @Says("DWELLINGS: who lives (with his THIRST) in which HOUSE, at most 7 HOUSES")
    static void promise30_sevenHouses() {
        Calls.run(houses(7), "still dwellings 0 = 0", "dwellings 1 = 0", "still dwellings 16 = 6",
                "still dwellings 17 = -2");
        // The first and the last one clash: the last one and the one ahead of it change houses.
        Calls.run("house 0 thirst 1;" + houses(5) + "house 0 thirst 1;rope 6 0 long 2;", "dwellings 0 = 0",
                "dwellings 1 = 2", "dwellings 10 = 0", "dwellings 14 = 4", "dwellings 15 = 6",
                "dwellings 16 = 5");
        Calls.run(houses(8), "still dwellings 0 = -4", "still dwellings 1 = -4",
                "still dwellings 10 = -4", "still dwellings 17 = -4", "still dwellings 18 = -2",
                "still dwellings 2 = -2");
        Calls.run(houses(10), "dwellings 19 = -4", "dwellings 20 = -2");
        Calls.run(houses(1), "dwellings 0 = 0", "dwellings 1 = 0", "dwellings 10 = 0",
                "dwellings 11 = -2");
    }

    @Says("DWELLINGS, what 0: CLASH, 1: HOUSES i whose order is another one, 10 + i: order i. -2: what; -4: more than 7 HOUSES.")
    static void promise30_noSuchWhat() {
        Calls.run(houses(3), "still dwellings 2 = -2", "still dwellings 9 = -2",
                "still dwellings -1 = -2", "still dwellings 13 = -2", "still dwellings 12 = 2",
                "dwellings " + LEAST_INT + " = -2", "dwellings " + GREATEST_INT + " = -2");
    }

    @Says("that with the least CLASH of all ROPES together, then the fewest HOUSES i whose order i is another one than i, then the first")
    static void promise30_leastThenFewestThenFirst() {
        String ends = "rope 0 1 long 2;";
        // Nobody moves if nothing is gained by it, or if the rope is cut.
        Calls.run("house 0 thirst 4095;house 0 thirst 4095;" + ends, "dwellings 0 = 12",
                "dwellings 1 = 0", "dwellings 10 = 0", "dwellings 11 = 1");
        Calls.run("house 0 thirst 1;house 0 thirst 1;house 0;" + ends, "dwellings 0 = 0",
                "dwellings 1 = 2", "dwellings 10 = 0", "dwellings 11 = 2", "dwellings 12 = 1",
                "cut 0 = 0", "dwellings 1 = 0", "dwellings 11 = 1");
        // The most that can clash.
        Calls.run("house 0 thirst 4095;house 0 thirst 4095;" + ends.repeat(16), "dwellings 0 = 192",
                "dwellings 1 = 0", "dwellings 10 = 0", "dwellings 11 = 1");
        // Three who move come first, but two are fewer.
        Calls.run("house 0 thirst 1;house 0 thirst 6;house 0 thirst 6;rope 1 2 long 2;rope 0 2 long 2;",
                "dwellings 0 = 0", "dwellings 1 = 2", "dwellings 10 = 2", "dwellings 11 = 1",
                "dwellings 12 = 0");
        // The ends of the third rope, told the other way round.
        Calls.run("house 0 thirst 3;house 0 thirst 3;house 0 thirst 3;house 0 thirst 4;"
                + "rope 1 0 long 2;rope 0 1 long 2;rope 3 2 long 2;", "dwellings 0 = 2",
                "dwellings 1 = 2", "dwellings 10 = 0", "dwellings 11 = 3", "dwellings 12 = 2",
                "dwellings 13 = 1", "cut 0 = 0", "dwellings 0 = 2", "dwellings 1 = 0");
        // One hour less is worth it.
        Calls.run("house 0 thirst 4095;house 0 thirst 4095;house 0 thirst 2047;" + ends,
                "dwellings 0 = 11", "dwellings 1 = 2", "dwellings 10 = 0", "dwellings 11 = 2");
    }

    @Says("of all orders (the i-th HOUSE gets the THIRST of HOUSE order i)")
    static void promise30_whoGetsWhose() {
        // House 0 thirsts as 1 did, 1 as 2, 2 as 0; the other way round they would clash by 4.
        Calls.run("house 0 thirst 6;house 0 thirst 1;house 0 thirst 7;rope 1 0 long 2;rope 2 0 long 2;"
                + "rope 0 2 long 2;", "dwellings 0 = 1", "dwellings 1 = 3", "dwellings 10 = 1",
                "dwellings 11 = 2", "dwellings 12 = 0", "house 0 3 = 6", "clash -1 = 4");
    }

    @Says("`int clash(int r)`: CLASH of a ROPE as it is; of NONE: of all that aren't CUT together. -2.")
    static void promise31_noneToTwelve() {
        String text = "house 0 thirst 4095;house 0 thirst 4095;house 0 thirst 2049;house 0;"
                + "rope 0 1 long 2;rope 2 1 long 2;rope 0 3 long 2;";
        Calls.run(text, "still clash 0 = 12", "clash 1 = 2", "clash 2 = 0", "still clash -1 = 14",
                "cut 0 = 0", "still clash -1 = 2", "cut 1 = 0", "clash -1 = 0", "cut 2 = 0",
                "clash -1 = 0");
        Calls.run("house 0 thirst 1;house 0 thirst 3;house 0 thirst 7;house 0 thirst 8;"
                + "rope 1 2 long 2;rope 0 3 long 2;rope 2 0 long 2;rope 3 1 long 2;", "clash 0 = 2",
                "clash 1 = 0", "clash 2 = 1", "clash 3 = 0", "clash -1 = 3");
        Calls.run("house 0 thirst 4095;house 0 thirst 4095;" + "rope 0 1 long 2;".repeat(16),
                "clash 15 = 12", "clash -1 = 192");
        Calls.run("", "clash -1 = 0");
    }

    @Says("`int clash(int r)`: CLASH of a ROPE as it is; of NONE: of all that aren't CUT together. -2.")
    static void promise31_noSuchRope() {
        Calls.run("house 0;house 0;" + "rope 0 1 long 2;".repeat(16), "still clash 16 = -2",
                "still clash -2 = -2", "clash 15 = 0", "clash " + LEAST_INT + " = -2",
                "clash " + GREATEST_INT + " = -2");
        Calls.run(houses(2), "clash 0 = -2");
    }

    // ---- promises 32 and 33

    /** Each one raises its bucket by 1 if it alone pulls. */
    private static final String LIKE = "house 5 stock 0;house 5 stock 0;rope 0 1 long 4 at 2;";

    @Says("how many ways there are for HOUSES to pull so that it comes so")
    static void promise32_depthsAndBeyond() {
        Calls.run(LIKE, "row 0 3: 2", "still seen 0 = 2", "row 0 3: 1", "still seen 0 = 1",
                "row 0 3: 3", "seen 0 = 1", "row 0 3: 0", "still seen 0 = 0", "row 0 3: 4", "seen 0 = 0",
                "row 0 3: 5", "seen 0 = 0", "row 0 3: -1", "seen 0 = 0", "row 0 3: 4294967298",
                "seen 0 = 0", "row 0 3: " + Long.MAX_VALUE, "seen 0 = 0", "row 0 3: " + Long.MIN_VALUE,
                "seen 0 = 0");
        Calls.run("fly 5;" + LIKE, "row 0 0: 0", "seen 0 = 1", "row 0 0: 4", "seen 0 = 1",
                "row 0 0: 1", "seen 0 = 0", "row 0 0: 2", "seen 0 = 2");
        // At its end it stays, whether the one that is up pulls or not.
        Calls.run("house 5 stock 0;house 5 stock 0;rope 0 1 long 4;", "row 0 0: 0", "seen 0 = 3",
                "row 0 0: 1", "seen 0 = 1");
        // Each of four houses has two ropes; only the third rope was moved, then the first, too.
        String ring = "house 5 stock 0;".repeat(4) + "rope 0 1 long 4 at 2;rope 1 2 long 4 at 2;"
                + "rope 3 2 long 4 at 2;rope 3 0 long 4 at 2;";
        Calls.run(ring, "row 0 0: 2 2 1 2", "seen 0 = 3", "pulled 0 = 8", "row 0 0: 2 2 3 2",
                "seen 0 = 3", "pulled 0 = 4", "row 0 0: 1 2 1 2", "seen 0 = 2", "pulled 0 = 9",
                "row 0 0: 2 1 1 2", "seen 0 = 1", "pulled 0 = 10", "row 0 0: 3 3 1 3", "seen 0 = 1",
                "pulled 0 = 15", "row 0 0: 1 2 1 3", "seen 0 = 0", "row 0 0: 2 2 2 2", "seen 0 = 7",
                "pulled 0 = 0");
        Calls.run(LIKE, "cut 0 = 0", "row 0 0: 2", "seen 0 = 1", "row 0 0: 1", "seen 0 = 0");
        Calls.run(LIKE, TO_LAST_HOUR, "row 0 0: 2", "seen 0 = 2");
    }

    @Says("SEEN. -2: the ROW; -6; -7: it has not as many numbers as there are ROPES; -4: more than 6 HOUSES.")
    static void promise32_asManyNumbersAsRopes() {
        Calls.run(LIKE, "row 0 0:", "still seen 0 = -7", "row 0 0: 2 2", "still seen 0 = -7",
                "row 0 0: 2", "seen 0 = 2");
        String sixteen = "house 0;house 0;" + "rope 0 1 long 2;".repeat(16);
        Calls.run(sixteen, "numbers 0 0 15 = 0", "still seen 0 = -7", "numbers 0 0 17 = 0",
                "still seen 0 = -7", "numbers 0 0 60 = 0", "seen 0 = -7", "numbers 0 0 16 = 0",
                "still seen 0 = 289");
        Calls.run(houses(2), "row 0 0:", "seen 0 = 1", "row 0 0: 0", "seen 0 = -7");
    }

    @Says("so that it comes so; at most 6 HOUSES")
    static void promise32_sixHouses() {
        Calls.run(houses(6), "row 0 0:", "still seen 0 = 1");
        Calls.run(houses(7), "row 0 0:", "still seen 0 = -4");
        Calls.run(land(6, 4, 5), "row 0 0: 0", "seen 0 = 3", "pulled 0 = 0");
        Calls.run(land(7, 4, 5), "row 0 0: 0", "still seen 0 = -4", "still pulled 0 = -4");
    }

    @Says("SEEN. -2: the ROW; -6; -7: it has not as many numbers as there are ROPES; -4: more than 6 HOUSES.")
    static void promise32_whichCodeComesFirst() {
        for (String call : new String[] {"seen ", "pulled "}) {
            Calls.run(houses(7), "still " + call + "4 = -2", "still " + call + "-1 = -2",
                    call + LEAST_INT + " = -2", call + GREATEST_INT + " = -2",
                    "still " + call + "0 = -6", "still " + call + "3 = -6", "row 3 0: 0",
                    "still " + call + "3 = -7", "row 3 0:", "still " + call + "3 = -4");
        }
    }

    @Says("those that pull in all ways by which it is SEEN so (0: there is none). Likewise.")
    static void promise33_inAllWays() {
        Calls.run(LIKE, "row 0 0: 1", "still pulled 0 = 1", "row 0 0: 3", "still pulled 0 = 2",
                "row 0 0: 2", "still pulled 0 = 0", "row 0 0: 0", "still pulled 0 = 0", "row 0 0: 4",
                "pulled 0 = 0");
        // It stays only if both pull, the one that is stronger by a stone's weight.
        Calls.run("house 6 stock 0;house 5 stock 0;rope 0 1 long 4 at 2 stones 1 0;", "row 0 0: 2",
                "seen 0 = 1", "pulled 0 = 3", "row 0 0: 1", "pulled 0 = 1", "row 0 0: 3", "seen 0 = 2",
                "pulled 0 = 0");
        Calls.run(houses(4) + "house 5 stock 0;house 5 stock 0;rope 4 5 long 4 at 2;", "row 0 0: 1",
                "pulled 0 = 16", "row 0 0: 3", "pulled 0 = 32");
        Calls.run("", "row 0 0:", "pulled 0 = 0");
    }

    @Says("those that pull in all ways by which it is SEEN so (0: there is none). Likewise.")
    static void promise33_likewiseRefused() {
        Calls.run(LIKE, "row 0 0:", "still pulled 0 = -7", "row 0 0: 1 1", "still pulled 0 = -7",
                "still pulled 1 = -6", "still pulled 4 = -2");
    }
}
