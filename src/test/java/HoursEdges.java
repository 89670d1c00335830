/** Boundary cases of promises 7, 8, 14 and 15: what an hour does, cut ropes, stones. */
final class HoursEdges {
    private static final String TWO = "house 1;house 1;";
    /** Houses that neither pull nor fill anything. */
    private static final String DRY = "house 0 stock 0;house 0 stock 0;";
    private static final String TO_LAST_HOUR = "times 101 live 99";
    private static final int LEAST_INT = Integer.MIN_VALUE;
    private static final int GREATEST_INT = Integer.MAX_VALUE;

    private HoursEdges() {
    }

    /** Where the first bucket is behind an hour, and how deep the second one is. */
    private static void moves(String text, String hour, int length, int depth) {
        Calls.run(text, hour, "rope 0 3 = " + depth, "rope 0 4 = " + (length - depth));
    }

    // ---- promise 7

    @Says("how many buckets were drunk. -5: HOUR is 9999.")
    static void promise07_theLastHour() {
        Calls.run(TWO, "times 100 live 99", "live 97 = 0", "pass = 0", "count 2 = 9998", "pass = 0",
                "count 2 = 9999", "still pass = -5", "count 2 = 9999");
        // Not even a rope that leans moves then.
        Calls.run(DRY + "rope 0 1 long 9;", TO_LAST_HOUR, "stones 0 false 9 = 11", "still pass = -5",
                "rope 0 3 = 0");
    }

    @Says("Then HOUR is one more (9999 at most).")
    static void promise07_oneHourMore() {
        Calls.run("", "count 2 = 0", "pass = 0", "count 2 = 1", "times 10 pass", "count 2 = 11",
                "pass = 0", "count 2 = 12", "pass = 0", "count 2 = 13");
    }

    @Says("All buckets are empty at first.")
    static void promise07_emptyAtFirst() {
        String rope = "rope 0 1 long 9 at 9;rope 0 1 long 9;";
        Calls.run("house 0 level 1;house 0 level 1;" + rope, "rope 0 5 = 0", "rope 0 6 = 0",
                "rope 1 5 = 0", "rope 1 6 = 0", "rope 0 7 = 2", "count 6 = 0", "house 0 2 = 9",
                "pass = 0", "rope 0 5 = 1", "rope 1 6 = 1", "count 6 = 2");
    }

    @Says("A bucket weighs 2 and its stones, and more, if it is full.")
    static void promise07_leastAndGreatestWeight() {
        for (int full = 1; full < 10; full += 8) {
            Calls.run("full " + full + ";house 0 level 1;house 0 stock 0;rope 0 1 long 2 at 1;"
                    + "rope 0 1 long 2 at 1 stones 9 9;", "rope 0 7 = 2", "rope 1 7 = 11",
                    "rope 1 8 = 11", "pass = 0", "rope 0 7 = " + (2 + full), "rope 0 8 = 2",
                    "rope 1 7 = " + (11 + full), "rope 1 8 = 11");
        }
    }

    @Says("If both DOWNS of a ROPE are unlike, that with more sinks by 1, the other one rises by 1")
    static void promise07_unlikeByOneOrNot() {
        String rope = "rope 0 1 long 5 at 3";
        moves(DRY + rope + ";", "pass = 0", 5, 3);
        moves(DRY + rope + " stones 1 0;", "pass = 0", 5, 4);
        moves(DRY + rope + " stones 0 1;", "pass = 0", 5, 2);
        moves(DRY + rope + " stones 9 9;", "pass = 0", 5, 3);
        moves(DRY + rope + " stones 9 8;", "pass = 0", 5, 4);
        moves(DRY + rope + " stones 8 9;", "pass = 0", 5, 2);
    }

    @Says("if they differ by fly or more, as far as it goes")
    static void promise07_flyAndOneLess() {
        String rope = "rope 0 1 long 9 at 4 stones ";
        for (int fly = 2; fly < 9; fly++) {
            String text = "fly " + fly + ";" + DRY + rope;
            moves(text + (fly - 1) + " 0;", "pass = 0", 9, 5);
            moves(text + fly + " 0;", "pass = 0", 9, 9);
            moves(text + (fly + 1) + " 0;", "pass = 0", 9, 9);
            moves(text + "0 " + (fly - 1) + ";", "pass = 0", 9, 3);
            moves(text + "0 " + fly + ";", "pass = 0", 9, 0);
            moves(text + "0 " + (fly + 1) + ";", "pass = 0", 9, 0);
        }
        moves(DRY + rope + "7 0;", "pass = 0", 9, 5);
        moves(DRY + rope + "8 0;", "pass = 0", 9, 9);
    }

    @Says("fly: 1 to 40 (8)")
    static void promise07_leastAndGreatestFly() {
        String rope = "rope 0 1 long 9 at 4 stones ";
        moves("fly 1;" + DRY + rope + "0 0;", "pass = 0", 9, 4);
        moves("fly 1;" + DRY + rope + "1 0;", "pass = 0", 9, 9);
        moves("fly 1;" + DRY + rope + "0 1;", "pass = 0", 9, 0);
        // 38 is as much as two can differ by: nine stones, nine of water, and twenty who pull.
        for (int fly = 37; fly <= 40; fly++) {
            Calls.run("full 9;fly " + fly + ";house 0 level 1 stock 1;house 20 stock 0;"
                    + "rope 0 1 long 9 at 1 stones 9 0;", "pass = 0", "rope 0 3 = 2", "rope 0 7 = 20",
                    "pull 1 0 = 0", "rope 0 3 = " + (fly <= 38 ? 9 : 3));
        }
    }

    @Says("none sinks below LENGTH")
    static void promise07_notBelowTheLength() {
        for (int length = 2; length <= 9; length += 7) {
            String rope = DRY + "rope 0 1 long " + length + " at ";
            for (int stones = 1; stones <= 9; stones += 8) {
                String first = " stones " + stones + " 0;";
                String second = " stones 0 " + stones + ";";
                moves(rope + (length - 1) + first, "pass = 0", length, length);
                moves(rope + length + first, "pass = 0", length, length);
                moves(rope + 1 + second, "pass = 0", length, 0);
                moves(rope + 0 + second, "pass = 0", length, 0);
            }
        }
    }

    @Says("an empty bucket at its HOUSE's LEVEL or deeper is full, if there is STOCK (which is 1 less then)")
    static void promise07_atItsLevel() {
        for (int level = 1; level <= 9; level++) {
            for (int depth = 0; depth <= 9; depth++) {
                int full = depth >= level ? 1 : 0;
                String house = "house 0 level " + level + " stock 2;house 0 stock 0;";
                Calls.run(house + "rope 0 1 long 9 at " + depth + ";", "pass = 0",
                        "rope 0 5 = " + full, "rope 0 6 = 0", "house 0 2 = " + (2 - full));
                Calls.run(house + "rope 1 0 long 9 at " + (9 - depth) + ";", "pass = 0",
                        "rope 0 5 = 0", "rope 0 6 = " + full, "house 0 2 = " + (2 - full));
            }
        }
        // It goes by where it is behind its way: from one above the level down to it, and back.
        Calls.run("house 0 level 3;house 0 stock 0;rope 0 1 long 9 at 2 stones 1 0;", "pass = 0",
                "rope 0 3 = 3", "rope 0 5 = 1");
        Calls.run("house 0 level 3;house 0 stock 0;rope 0 1 long 9 at 3 stones 0 1;", "pass = 0",
                "rope 0 3 = 2", "rope 0 5 = 0");
        // One that is full takes no more.
        Calls.run("house 0 level 1 stock 2;house 0 stock 0;rope 0 1 long 2 at 2;", "pass = 0",
                "house 0 2 = 1", "pass = 0", "house 0 2 = 1", "rope 0 5 = 1", "rope 0 7 = 7");
        // No rope is as long as that level is deep.
        Calls.run("house 0 level 9;house 0 stock 0;rope 0 1 long 8 at 8;", "pass = 0", "rope 0 5 = 0");
    }

    @Says("if there is STOCK (which is 1 less then)")
    static void promise07_theLastOfTheStock() {
        String rope = "house 0 stock 0;rope 0 1 long 2 at 1;";
        Calls.run("house 0 level 1 stock 0;" + rope, "pass = 0", "rope 0 5 = 0", "house 0 2 = 0",
                "count 5 = 0", "pass = 0", "rope 0 5 = 0", "house 0 2 = 0");
        Calls.run("house 0 level 1 stock 1;" + rope, "pass = 0", "rope 0 5 = 1", "house 0 2 = 0");
        Calls.run("house 0 level 1 stock 99;" + rope, "pass = 0", "rope 0 5 = 1", "house 0 2 = 98");
    }

    @Says("Then, ROPE by ROPE, the first bucket ahead of the second")
    static void promise07_whoseTheLastStockIs() {
        // House 0 hangs on both ropes, once by the second bucket and once by the first.
        for (int stock = 0; stock <= 3; stock++) {
            Calls.run("house 0 level 1 stock " + stock + ";house 0 stock 0;rope 1 0 long 2 at 1;"
                    + "rope 0 1 long 2 at 1;", "pass = 0", "rope 0 6 = " + (stock > 0 ? 1 : 0),
                    "rope 1 5 = " + (stock > 1 ? 1 : 0), "house 0 2 = " + Math.max(0, stock - 2));
        }
        // A rope that takes none leaves it to those behind it.
        Calls.run("house 0 level 2 stock 1;house 0 stock 0;rope 0 1 long 2 at 1;rope 0 1 long 2 at 2;"
                + "rope 0 1 long 2 at 2;", "pass = 0", "rope 0 5 = 0", "rope 1 5 = 1", "rope 2 5 = 0");
    }

    @Says("a full bucket at DEPTH 0 is empty, and its HOUSE HAS one more")
    static void promise07_drunkAtDepth0Alone() {
        Calls.run("fly 40;house 0 level 1 stock 1;house 0 stock 0;rope 0 1 long 3 at 2;", "pass = 0",
                "rope 0 5 = 1", "stones 0 true 9 = 11", "pass = 0", "rope 0 3 = 1", "rope 0 5 = 1",
                "house 0 4 = 0", "pass = 1", "rope 0 3 = 0", "rope 0 5 = 0", "rope 0 7 = 2",
                "house 0 4 = 1", "pass = 0", "house 0 4 = 1");
        // Likewise the second bucket.
        Calls.run("fly 40;house 0 level 1 stock 1;house 0 stock 0;rope 1 0 long 3 at 1;", "pass = 0",
                "rope 0 6 = 1", "stones 0 false 9 = 11", "pass = 0", "rope 0 4 = 1", "rope 0 6 = 1",
                "pass = 1", "rope 0 4 = 0", "rope 0 6 = 0", "house 0 4 = 1", "house 1 4 = 0");
        // An empty one at depth 0 is nothing to drink.
        Calls.run("house 0 level 1;house 0 stock 0;rope 0 1 long 2;", "pass = 0", "house 0 4 = 0",
                "house 0 2 = 9");
    }

    @Says("An HOUR goes by without pulls: how many buckets were drunk.")
    static void promise07_sixteenAtOnce() {
        Calls.run("fly 40;house 0 level 1 stock 16;house 0 stock 0;"
                + "rope 0 1 long 2 at 2 stones 0 9;".repeat(16), "pass = 0", "count 6 = 16",
                "count 5 = 0", "pass = 16", "house 0 4 = 16", "house 0 6 = 16", "count 6 = 0",
                "pass = 0");
    }

    @Says("it is QUENCHED by it, if HOUR modulo 12 is of its THIRST, else it is WASTED")
    static void promise07_hoursModulo12() {
        int[] hours = {2, 10, 11, 12, 13, 22, 23, 24, 25, 9996, 9997, 9998};
        for (int hour : hours) {
            int bit = 1 << hour % 12;
            drunkAt(hour, bit, true);
            drunkAt(hour, 4095, true);
            drunkAt(hour, 4095 - bit, false);
            drunkAt(hour, 0, false);
        }
    }

    /** A bucket fills in hour 0, sinks in hour 1, and flies up once there are stones in the other. */
    private static void drunkAt(int hour, int thirst, boolean quenched) {
        int rest = hour - 2;
        String text = "fly 1;house 0 level 1 thirst " + thirst + ";house 0 stock 0;rope 0 1 long 2 at 1;";
        Calls.run(text, "pass = 0", "pass = 0", "times " + rest / 99 + " live 99",
                "times " + rest % 99 + " pass", "count 2 = " + hour, "stones 0 true 9 = 11",
                "pass = 1", "count 2 = " + (hour + 1), "house 0 4 = 1",
                "house 0 5 = " + (quenched ? 1 : 0), "house 0 6 = " + (quenched ? 0 : 1));
    }

    // ---- promise 8

    @Says("DOWN of a bucket: what it weighs, and STRENGTH of the other HOUSE of that ROPE, if that one pulls it (it pulls its own bucket up).")
    static void promise08_strengthToTheLeast() {
        // The bucket that is pulled is heavier by three stones.
        int[][] told = {
            {0, 5}, {1, 5}, {2, 5}, {3, 4}, {4, 3}, {10, 3}, {11, 0}, {12, 0}, {20, 0},
        };
        for (int[] t : told) {
            String pulls = "house " + t[0] + " stock 0;house 20 stock 0;";
            moves(pulls + "rope 0 1 long 9 at 4 stones 3 0;", "pull 0 0 = 0", 9, t[1]);
            moves(pulls + "rope 1 0 long 9 at 5 stones 0 3;", "pull 0 0 = 0", 9, 9 - t[1]);
        }
    }

    @Says("An HOUR in which one HOUSE alone pulls a ROPE: likewise.")
    static void promise08_oneRopeAlone() {
        Calls.run("house 9 stock 0;house 9 stock 0;rope 0 1 long 4 at 2;rope 0 1 long 4 at 2;"
                + "rope 0 1 long 4 at 2 stones 1 0;", "pull 0 1 = 0", "rope 0 3 = 2", "rope 1 3 = 0",
                "rope 2 3 = 3", "count 2 = 1", "pull 1 1 = 0", "rope 0 3 = 2", "rope 1 3 = 4",
                "rope 2 3 = 4", "count 2 = 2");
    }

    @Says("likewise. -2: the HOUSE, ROPE, not one of its ROPES; -5: it is CUT, HOUR is 9999.")
    static void promise08_noSuchHouseOrRope() {
        Calls.run("house 5;house 5;house 5;rope 0 1 long 4 at 2;rope 1 2 long 4 at 2;",
                "still pull 3 0 = -2", "still pull -1 0 = -2", "still pull 0 2 = -2",
                "still pull 0 -1 = -2", "still pull 2 0 = -2", "still pull 0 1 = -2",
                "still pull " + LEAST_INT + " 0 = -2", "still pull " + GREATEST_INT + " 0 = -2",
                "still pull 0 " + LEAST_INT + " = -2", "still pull 0 " + GREATEST_INT + " = -2",
                "count 2 = 0", "pull 2 1 = 0", "count 2 = 1");
        Calls.run("house 1;".repeat(10) + "rope 0 9 long 2;".repeat(16), "pull 9 15 = 0",
                "still pull 10 15 = -2", "still pull 9 16 = -2", "still pull 8 15 = -2");
    }

    @Says("-5: it is CUT, HOUR is 9999.")
    static void promise08_cutOrTooLate() {
        Calls.run("house 5;house 5;house 5;rope 0 1 long 4 at 2;rope 1 2 long 4 at 2;", "cut 0 = 0",
                "still pull 0 0 = -5", "still pull 1 0 = -5", "pull 1 1 = 0", "still pull 2 0 = -2",
                "still pull 3 0 = -2");
        Calls.run(TWO + "rope 0 1 long 2;", "times 100 live 99", "live 98 = 0", "pull 0 0 = 0",
                "count 2 = 9999", "still pull 0 0 = -5", "still pull 0 1 = -2", "still pull 2 0 = -2",
                "cut 0 = 0", "still pull 0 0 = -5");
    }

    // ---- promise 14

    @Says("`int cut(int r)`: A ROPE is CUT: 0. -2; -5: it is already.")
    static void promise14_noSuchRopeOrAlready() {
        Calls.run(TWO + "rope 0 1 long 2;".repeat(16), "still cut 16 = -2", "still cut -1 = -2",
                "still cut " + LEAST_INT + " = -2", "still cut " + GREATEST_INT + " = -2", "cut 15 = 0",
                "rope 15 9 = 1", "rope 14 9 = 0", "still cut 15 = -5", "cut 0 = 0", "rope 0 9 = 1",
                "still cut 0 = -5", "rope 1 9 = 0", "still cut 16 = -2");
        Calls.run(TWO, "still cut 0 = -2");
    }

    @Says("A ROPE that is CUT stays as it is, its buckets do nothing any more.")
    static void promise14_nothingAnyMore() {
        // It neither sinks nor flies.
        for (int stones = 0; stones <= 9; stones++) {
            Calls.run(DRY + "rope 0 1 long 4 at 2 stones 0 " + stones + ";", "cut 0 = 0", "pass = 0",
                    "rope 0 3 = 2", "rope 0 4 = 2", "count 2 = 1");
        }
        // It doesn't fill, and leaves the stock to the next one.
        Calls.run("house 0 level 1 stock 1;house 0 level 1 stock 1;rope 0 1 long 2 at 1;"
                + "rope 0 1 long 2 at 1;", "cut 0 = 0", "pass = 0", "rope 0 5 = 0", "rope 0 6 = 0",
                "rope 1 5 = 1", "rope 1 6 = 1");
        // It is not drunk, just ahead of depth 0.
        Calls.run("house 0 level 1;house 0 stock 0;rope 0 1 long 2 at 1;", "pass = 0", "rope 0 5 = 1",
                "stones 0 true 9 = 11", "cut 0 = 0", "pass = 0", "rope 0 3 = 1", "rope 0 5 = 1",
                "rope 0 7 = 7", "house 0 4 = 0", "live 99 = 0", "drought 1 60 = 0", "rope 0 3 = 1");
    }

    // ---- promise 15

    @Says("So many stones (0 to 9) are in a bucket (the second one, or the first) then: what it weighs.")
    static void promise15_zeroToNine() {
        Calls.run(DRY + "rope 0 1 long 2 stones 4 5;", "stones 0 false 0 = 2", "rope 0 7 = 2",
                "rope 0 8 = 7", "stones 0 false 9 = 11", "rope 0 7 = 11", "rope 0 8 = 7",
                "stones 0 true 0 = 2", "rope 0 8 = 2", "rope 0 7 = 11", "stones 0 true 9 = 11",
                "stones 0 true 1 = 3", "stones 0 true 8 = 10");
        Calls.run("full 9;house 0 level 1;house 0 stock 0;rope 0 1 long 2 at 1;", "pass = 0",
                "stones 0 false 0 = 11", "stones 0 false 9 = 20", "rope 0 7 = 20");
    }

    @Says("-2: the ROPE; -3: how many.")
    static void promise15_noSuchRopeOrTooMany() {
        Calls.run(DRY + "rope 0 1 long 2 stones 4 5;".repeat(16), "still stones 0 false 10 = -3",
                "still stones 0 true 10 = -3", "still stones 0 false -1 = -3",
                "still stones 0 true -1 = -3", "still stones 0 true " + LEAST_INT + " = -3",
                "still stones 0 true " + GREATEST_INT + " = -3", "still stones 16 true 1 = -2",
                "still stones -1 false 1 = -2", "still stones 16 false 10 = -2",
                "still stones -1 true -1 = -2", "still stones " + LEAST_INT + " true 1 = -2",
                "still stones " + GREATEST_INT + " false 1 = -2", "stones 15 true 9 = 11",
                "rope 15 8 = 11", "rope 15 7 = 6");
    }

    @Says("-2: the ROPE; -3: how many.")
    static void promise15_aCutRopeToo() {
        Calls.run(DRY + "rope 0 1 long 2 at 1;", "cut 0 = 0", "stones 0 false 9 = 11",
                "rope 0 7 = 11", "still stones 0 false 10 = -3", "pass = 0", "rope 0 3 = 1");
    }
}
