/** Boundary cases of promises 34 to 39: rows of numbers, images, counts. */
final class RowsEdges {
    private static final String TWO = "house 1;house 1;";
    private static final int LEAST_INT = Integer.MIN_VALUE;
    private static final int GREATEST_INT = Integer.MAX_VALUE;
    private static final String WIDE = String.valueOf(0x1234_5678_9abc_def0L);

    private RowsEdges() {
    }

    // ---- promise 34

    @Says("have 0 to 60 numbers of 8 bits (sort 0), 16 (1), 32 (2), 64 (3)")
    static void promise34_zeroToSixtyNumbers() {
        for (int n : new int[] {0, 1, 59, 60}) {
            String last = n == 0 ? "write 0 0 7 = -7" : "write 0 " + (n - 1) + " 7 = 7";
            Calls.run("", "numbers 0 0 " + n + " = 0", last, "still write 0 " + n + " 7 = -7");
        }
        for (int row = 0; row < 4; row++) {
            Calls.run("", "numbers " + row + " 3 60 = 0", "write " + row + " 59 7 = 7",
                    "judge " + row + " 1 = 1", "judge " + (row + 1) % 4 + " 1 = -6");
        }
    }

    @Says("-2: no such ROW, sort; -3, and the ROW stays: n is below 0 or above 60.")
    static void promise34_noSuchRowOrSort() {
        Calls.run(TWO, "row 0 1: 5 -1 7", "still numbers 4 0 1 = -2", "still numbers -1 0 1 = -2",
                "still numbers 0 4 1 = -2", "still numbers 0 -1 1 = -2",
                "still numbers " + LEAST_INT + " 0 1 = -2", "still numbers " + GREATEST_INT + " 0 1 = -2",
                "still numbers 0 " + LEAST_INT + " 1 = -2", "still numbers 0 " + GREATEST_INT + " 1 = -2",
                "numbers 3 3 1 = 0", "numbers 0 0 1 = 0");
    }

    @Says("-3, and the ROW stays: n is below 0 or above 60.")
    static void promise34_theRowStays() {
        Calls.run(TWO + "rope 0 1 long 2;", "row 0 1: 0 -1 20", "still numbers 0 0 -1 = -3",
                "still numbers 0 0 61 = -3", "still numbers 0 3 " + LEAST_INT + " = -3",
                "still numbers 0 3 " + GREATEST_INT + " = -3", "judge 0 2 = 2", "judge 0 4 = 2",
                "still numbers 1 0 61 = -3", "still numbers 1 0 -1 = -3", "judge 1 0 = -6");
    }

    @Says("(Of several that which the call tells first.)")
    static void promise34_whichCodeComesFirst() {
        Calls.run(TWO, "still numbers 4 0 61 = -2", "still numbers 0 4 -1 = -2",
                "still numbers -1 -1 61 = -2", "still numbers 0 0 61 = -3");
    }

    @Says("A ROW OF NUMBERS has n numbers of a sort, all 0 (in place of another one): 0.")
    static void promise34_inPlaceOfAnother() {
        // Numbers that are 0 are pulls of rope 0 by house 0.
        Calls.run(TWO + "rope 0 1 long 2;", "row 0 3: 99 99 99", "judge 0 1 = 1", "numbers 0 0 3 = 0",
                "judge 0 0 = 1", "judge 0 1 = 2", "write 0 1 -1 = -1", "judge 0 0 = -1",
                "numbers 0 0 1 = 0", "judge 0 4 = 1", "write 0 1 0 = -7", "numbers 0 1 2 = 0",
                "judge 0 1 = 2", "write 0 0 65536 = 0", "write 0 1 32768 = -32768");
        Calls.run("", "numbers 0 0 60 = 0", "write 0 59 1 = 1", "numbers 0 0 0 = 0",
                "numbers 0 0 60 = 0", "row 1 0:", "seen 1 = 1");
    }

    // ---- promise 35

    @Says("Number i of a ROW OF NUMBERS is v, cut to its sort: as it is there.")
    static void promise35_cutToItsSort() {
        for (int sort = 0; sort < 3; sort++) {
            long most = (1L << (8 << sort) - 1) - 1;
            Calls.run("", "numbers 0 " + sort + " 1 = 0", "write 0 0 " + most + " = " + most,
                    "write 0 0 " + (most + 1) + " = " + (-most - 1),
                    "write 0 0 " + (-most - 1) + " = " + (-most - 1),
                    "write 0 0 " + (-most - 2) + " = " + most, "write 0 0 -1 = -1", "write 0 0 0 = 0",
                    "write 0 0 " + (2 * most + 1) + " = -1", "write 0 0 " + (2 * most + 2) + " = 0",
                    "write 0 0 " + Long.MAX_VALUE + " = -1", "write 0 0 " + Long.MIN_VALUE + " = 0");
        }
        Calls.run("", "numbers 0 3 1 = 0", "write 0 0 " + Long.MAX_VALUE + " = " + Long.MAX_VALUE,
                "write 0 0 " + Long.MIN_VALUE + " = " + Long.MIN_VALUE, "write 0 0 -1 = -1",
                "write 0 0 " + WIDE + " = " + WIDE);
        // It is kept so: 255 is the sign between hours, 256 a pull.
        Calls.run(TWO + "rope 0 1 long 2;", "numbers 0 0 1 = 0", "write 0 0 255 = -1", "judge 0 2 = 2",
                "write 0 0 256 = 0", "judge 0 4 = 1", "write 0 0 276 = 20", "judge 0 4 = 1");
    }

    @Says("as it is there. -2: no such ROW; -6; -7.")
    static void promise35_noSuchNumber() {
        Calls.run(TWO, "row 0 0: 5 6", "write 0 0 5 = 5", "write 0 1 6 = 6", "still write 0 2 5 = -7",
                "still write 0 -1 5 = -7", "still write 0 " + LEAST_INT + " 5 = -7",
                "still write 0 " + GREATEST_INT + " 5 = -7", "still write 4 0 5 = -2",
                "still write -1 0 5 = -2", "write " + LEAST_INT + " 0 5 = -2",
                "write " + GREATEST_INT + " 0 5 = -2", "still write 1 0 5 = -6",
                "still write 3 0 5 = -6");
    }

    @Says("(Of several that which the call tells first.)")
    static void promise35_whichCodeComesFirst() {
        Calls.run(TWO, "still write 4 -1 5 = -2", "still write 0 -1 5 = -6", "still write 0 60 5 = -6",
                "numbers 0 0 0 = 0", "still write 0 0 5 = -7");
    }

    // ---- promise 36

    @Says("DEPTHS of first buckets come into a ROW from its first place on: how many.")
    static void promise36_fromItsFirstPlaceOn() {
        // Seen as it hangs, with nobody strong enough to change it: 0 for what isn't as it hangs.
        String three = "house 0 stock 0;house 0 stock 0;rope 0 1 long 9;rope 0 1 long 9 at 9;"
                + "rope 1 0 long 9 at 4;";
        Calls.run(three, "numbers 0 0 3 = 0", "seen 0 = 0", "copy 0 = 3", "seen 0 = 16");
        Calls.run("house 0;house 0;", "row 0 0:", "copy 0 = 0", "row 0 0: 7", "copy 0 = 0",
                "judge 0 1 = 1");
        Calls.run("house 0 stock 0;house 0 stock 0;" + "rope 0 1 long 9 at 9;".repeat(16),
                "numbers 3 3 16 = 0", "copy 3 = 16", "seen 3 = 289");
        // Cut ones, too.
        Calls.run(three, "cut 1 = 0", "numbers 0 0 3 = 0", "copy 0 = 3", "seen 0 = 9");
    }

    @Says("-2: the ROW; -6; -7: it has not so many places (nothing comes).")
    static void promise36_notSoManyPlaces() {
        // Each depth is a number that tells a pull: 0 and 1 of house 0, 3 of none.
        String text = TWO + "rope 0 1 long 9;rope 0 1 long 9 at 1;rope 0 1 long 9 at 3;";
        Calls.run(text, "row 0 0: 20 0", "still copy 0 = -7", "judge 0 1 = 0", "judge 0 4 = 2",
                "row 0 0:", "still copy 0 = -7", "row 0 0: 20 20 20", "copy 0 = 3", "judge 0 0 = 1",
                "judge 0 1 = 2", "write 0 1 -1 = -1", "judge 0 0 = 2", "judge 0 1 = 1",
                "row 0 0: 7 7 7 20", "copy 0 = 3", "write 0 1 -1 = -1", "write 0 2 -1 = -1",
                "judge 0 0 = -1", "judge 0 2 = 3", "judge 0 4 = 2");
    }

    @Says("-2: the ROW; -6; -7: it has not so many places (nothing comes).")
    static void promise36_noSuchRow() {
        Calls.run(TWO + "rope 0 1 long 9;", "still copy 4 = -2", "still copy -1 = -2",
                "copy " + LEAST_INT + " = -2", "copy " + GREATEST_INT + " = -2", "still copy 0 = -6",
                "still copy 3 = -6", "row 3 0: 0", "copy 3 = 1", "still copy 2 = -6");
    }

    // ---- promises 37 and 38

    private static final String LIVED = "fly 40;full 2;house 3 level 1 thirst 4095;"
            + "house 2 level 1 thirst 4095;rope 0 1 long 4 at 2;rope 1 0 long 4;";

    @Says("`int image(int i)`: An IMAGE is made: 0. -2.")
    static void promise37_zeroAndOne() {
        Calls.run(LIVED, "still image 2 = -2", "still image -1 = -2",
                "still image " + LEAST_INT + " = -2", "still image " + GREATEST_INT + " = -2",
                "still restore 0 = -5", "still restore 1 = -5", "image 1 = 0", "still restore 0 = -5",
                "still restore 1 = 0", "image 0 = 0", "still restore 0 = 0");
    }

    @Says("IMAGES 0 to 1: THE LAND and all as it stands")
    static void promise37_inPlaceOfAnother() {
        Calls.run(LIVED, "image 0 = 0", "pass = 0", "image 1 = 0", "pass = 0", "image 0 = 0", "pass = 0",
                "restore 0 = 0", "count 2 = 2", "restore 1 = 0", "count 2 = 1", "restore 0 = 0",
                "count 2 = 2");
    }

    @Says("All that is in an IMAGE is as it was: 0. -2; -5: none was made.")
    static void promise38_noneWasMade() {
        Calls.run(LIVED, "still restore 0 = -5", "still restore 1 = -5", "still restore 2 = -2",
                "still restore -1 = -2", "still restore " + LEAST_INT + " = -2",
                "still restore " + GREATEST_INT + " = -2", "image 0 = 0", "still restore 1 = -5",
                "still restore 2 = -2");
    }

    @Says("All that is in an IMAGE is as it was: 0.")
    static void promise38_allIsAsItWas() {
        // What was drunk, cut, moved, filled and weighed down, and the hour at its last.
        Calls.run(LIVED, "live 2 = 1", "stones 0 true 4 = 8", "cut 1 = 0", "image 1 = 0", "live 99 = 0",
                "stones 0 false 9 = 11", "cut 0 = 0", "times 100 live 99", "times 99 pass", "pass = -5",
                "restore 1 = 0", "count 2 = 2", "rope 0 9 = 0", "rope 1 9 = 1", "rope 0 8 = 8",
                "house 0 4 = 1", "house 0 5 = 1", "house 0 2 = 7", "house 1 2 = 8", "count 8 = 6",
                "still restore 1 = 0", "live 1 = 0", "count 2 = 3");
        // The last house and the last rope: drunk, filled, cut.
        String last = "fly 40;" + "house 0 stock 0;".repeat(8) + "house 9 level 1 stock 16;"
                + "house 9 level 1 stock 16 thirst 2;"
                + "rope 8 9 long 2 at 1;".repeat(16);
        Calls.run(last, "pass = 0", "pull 9 14 = 1", "pull 8 14 = 0", "pull 9 14 = 0", "cut 15 = 0",
                "house 9 5 = 1", "house 9 6 = 0", "count 6 = 29", "rope 15 6 = 1", "image 0 = 0",
                "read house 1; = 1", "restore 0 = 0", "house 9 5 = 1", "count 6 = 29",
                "rope 15 6 = 1", "rope 15 9 = 1", "rope 14 9 = 0");
        // Back to where none of it was yet.
        Calls.run(last, "image 1 = 0", "pass = 0", "image 0 = 0", "pull 9 15 = 1", "pull 8 15 = 0",
                "restore 0 = 0", "house 9 4 = 0", "house 9 5 = 0", "rope 15 4 = 1", "rope 15 6 = 1",
                "stones 15 false 9 = 16", "pass = 1", "house 9 5 = 1", "restore 0 = 0",
                "rope 15 7 = 7", "live 1 = 1", "house 9 5 = 1", "restore 1 = 0", "rope 15 6 = 0",
                "rope 15 5 = 0", "house 9 2 = 16", "house 9 5 = 0");
        // Drunk outside of its hours of thirst, by the last house.
        Calls.run(last, "image 1 = 0", "pass = 0", "pass = 0", "pull 9 15 = 1", "house 9 6 = 1",
                "restore 1 = 0", "house 9 6 = 0", "house 9 4 = 0");
        // A land of nothing in place of one that is full, and back.
        String most = "full 9;fly 40;" + "house 20 level 9 stock 99 thirst 4095;".repeat(10)
                + "rope 9 0 long 9 at 9 stones 9 9;".repeat(13);
        Calls.run("", "image 0 = 0", "read " + most + " = 25", "image 1 = 0", "restore 0 = 0",
                "count 0 = 0", "count 1 = 0", "count 3 = 5", "count 4 = 8", "count 8 = 0",
                "house 0 0 = -2", "rope 0 0 = -2", "restore 1 = 0", "count 0 = 10", "count 1 = 13",
                "count 3 = 9", "count 4 = 40", "count 5 = 990", "count 8 = 25", "house 9 0 = 20",
                "house 9 1 = 9", "house 9 2 = 99", "house 9 3 = 4095", "house 9 7 = 8191",
                "rope 12 0 = 9", "rope 12 1 = 0", "rope 12 2 = 9", "rope 12 3 = 9", "rope 12 7 = 11",
                "rope 12 8 = 11");
    }

    // ---- promise 39

    @Says("8 LINES. NONE for others.")
    static void promise39_noneForOthers() {
        Calls.run(LIVED, "still count 8 = 6", "still count 9 = -1", "still count -1 = -1",
                "still count 0 = 2", "count " + LEAST_INT + " = -1", "count " + GREATEST_INT + " = -1");
    }

    @Says("0 HOUSES, 1 ROPES, 2 HOUR, 3 full, 4 fly, 5 STOCKS together")
    static void promise39_leastAndMost() {
        Calls.run("", "count 0 = 0", "count 1 = 0", "count 2 = 0", "count 3 = 5", "count 4 = 8",
                "count 5 = 0", "count 6 = 0", "count 7 = 0", "count 8 = 0");
        Calls.run("house 0 stock 99;".repeat(10) + "rope 0 1 long 2;".repeat(16), "count 0 = 10",
                "count 1 = 16", "count 5 = 990", "count 8 = 26", "cut 0 = 0", "count 1 = 16");
    }

    @Says("6 full buckets (of ROPES that aren't CUT), 7 bytes on THE TAPE, 8 LINES")
    static void promise39_fullBucketsAndBytes() {
        // Both buckets of all sixteen ropes fill in one hour.
        Calls.run("house 0 level 1 stock 16;house 0 level 1 stock 16;"
                + "rope 0 1 long 2 at 1;".repeat(16), "count 5 = 32", "count 6 = 0", "pass = 0",
                "count 6 = 32", "count 5 = 0", "cut 15 = 0", "count 6 = 30", "cut 0 = 0",
                "count 6 = 28");
        Calls.run("", "count 7 = 0", "feed 0 0 0 0 0 = 20", "count 7 = 20", "times 44 feed 0 0 0 0 0",
                "count 7 = 900", "feed 0 0 0 0 0 = -5", "count 7 = 900", "land 0 = 0", "count 7 = 0");
    }
}
