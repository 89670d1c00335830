/** Boundary cases of promises 1 to 6: a new object, the tape, the land's text and its faults. */
final class LandEdges {
    private static final String TWO = "house 1;house 1;";
    private static final String BLANKS = "feed 0x20202020 0x20202020 0x20202020 0x20202020 0x20202020";
    private static final int LEAST_INT = Integer.MIN_VALUE;
    private static final int GREATEST_INT = Integer.MAX_VALUE;

    private LandEdges() {
    }

    private static void fine(String text, String... steps) {
        int lines = text.length() - text.replace(";", "").length();
        Calls.run("", "read " + text + " = " + lines, "fault 0 = 0", "fault 1 = -1",
                "count 8 = " + lines);
        Calls.run(text, steps);
    }

    private static void faulty(String text, int kind, int place) {
        Calls.run("", "keeps read " + text + " = " + (-30 - kind), "fault 0 = " + kind,
                "fault 1 = " + place);
    }

    /** The N at # is taken from least to most; the numbers beside these are a fault there. */
    private static void bounds(String text, int least, int most, String asks) {
        for (int n : new int[] {least, least + 1, most - 1, most}) {
            fine(text.replace("#", String.valueOf(n)), asks + " = " + n);
        }
        if (least > 0) {
            faulty(text.replace("#", String.valueOf(least - 1)), 3, text.indexOf('#'));
        }
        faulty(text.replace("#", String.valueOf(most + 1)), 3, text.indexOf('#'));
        faulty(text.replace("#", "9999"), 3, text.indexOf('#'));
    }

    private static String houses(int n) {
        return "house 1;".repeat(n);
    }

    // ---- promise 1

    @Says("`TwoWells()`: No HOUSES.")
    static void promise01_noHouses() {
        Calls.run("", "count 0 = 0", "count 1 = 0", "house 0 0 = -2", "house -1 0 = -2",
                "rope 0 0 = -2", "rope -1 0 = -2", "neighbours 0 = -2", "mate 0 = -2",
                "soonest 0 1 = -2", "cheapest 0 1 = -2", "alone 0 1 0 = -2", "pull 0 0 = -2",
                "lifts 0 0 = -2", "loss 0 0 = -2", "cut 0 = -2", "severs 0 = -2",
                "stones 0 false 0 = -2", "clash 0 = -2", "dwellings 10 = -2", "custom 1 10 = -2");
    }

    @Says("THE LAND is a TEXT of at most 900 bytes (without one: nothing)")
    static void promise01_nothingWithoutAText() {
        Calls.run("", "count 3 = 5", "count 4 = 8", "count 5 = 0", "count 6 = 0", "count 7 = 0",
                "count 8 = 0", "fault 0 = 0", "fault 1 = -1", "rests = 0", "calm = 0", "even = 0",
                "together = 0", "parted = 0", "ring = -1", "clash -1 = 0", "dwellings 0 = 0",
                "dwellings 1 = 0", "custom 1 0 = 0", "custom 99 3 = 0", "count 2 = 0", "pass = 0",
                "live 1 = 0", "drought 7 1 = 0", "count 2 = 3");
        Calls.run("", "row 0 0:", "seen 0 = 1", "pulled 0 = 0", "copy 0 = 0", "judge 0 2 = 1",
                "perform 0 = 1", "row 0 0: 0", "seen 0 = -7", "judge 0 1 = 1", "copy 0 = 0",
                "image 0 = 0", "restore 0 = 0", "count 2 = 1");
    }

    @Says("HOUR is 0 at first.")
    static void promise01_hourIs0() {
        Calls.run("", "count 2 = 0", "pass = 0", "count 2 = 1");
    }

    @Says("ROWS OF NUMBERS 0 to 3 are MISSING at first")
    static void promise01_rowsAreMissing() {
        for (int row = 0; row < 4; row++) {
            Calls.run(TWO, "judge " + row + " 0 = -6", "perform " + row + " = -6",
                    "seen " + row + " = -6", "pulled " + row + " = -6", "copy " + row + " = -6",
                    "write " + row + " 0 0 = -6");
        }
    }

    @Says("IMAGES 0 to 1: THE LAND and all as it stands (none at first).")
    static void promise01_noImages() {
        Calls.run(TWO, "still restore 0 = -5", "still restore 1 = -5");
    }

    @Says("An object is used for at most 512 calls after it has been made")
    static void promise01_the512thCallAnswers() {
        Calls.run("", "times 511 pass", "count 2 = 511");
        Calls.run("", "times 45 " + BLANKS, "land 900 = 0", "times 465 numbers 3 3 60",
                "numbers 3 3 61 = -3");
        // Two feeds and a land() for the text, then 509 calls more.
        String slow = "house 9 level 1;house 1;rope 0 1 long 2;";
        Calls.run(slow, "times 508 soonest 0 3", "soonest 0 3 = 6");
        Calls.run(slow, "times 508 alone 0 7 16", "alone 0 7 0 = 0");
        Calls.run(slow, "times 507 drought 5 60", "drought 5 60 = -5", "count 2 = 9960");
    }

    // ---- promise 2

    @Says("Twenty bytes come behind those on THE TAPE, the highest of each int first: how many it has.")
    static void promise02_highestByteFirst() {
        // "house 7;full 3;fly 9" and, behind it, ";".
        Calls.run("", "feed 0x686f7573 0x6520373b 0x66756c6c 0x20333b66 0x6c792039 = 20",
                "count 7 = 20", "feed 0x3b000000 0 0 0 0 = 40", "count 7 = 40", "land 21 = 3",
                "house 0 0 = 7", "count 3 = 3", "count 4 = 9");
    }

    @Says("Twenty bytes come behind those on THE TAPE")
    static void promise02_bytesOfAnySign() {
        Calls.run("", "feed 0x20202020 0x20202020 0x20202020 0x20202020 0x202020ff = 20",
                "land 20 = -31", "fault 1 = 19", "feed " + LEAST_INT + " -1 0 1 " + GREATEST_INT + " = 20",
                "land 20 = -31", "fault 1 = 0",
                "feed 0x200a2020 0x20200a20 0x2020200a 0x0a202020 0x202080ff = 20",
                "land 20 = -31", "fault 1 = 18");
    }

    @Says("-5: it would have more than 900.")
    static void promise02_upTo900() {
        Calls.run("", "times 43 " + BLANKS, BLANKS + " = 880", BLANKS + " = 900",
                "still " + BLANKS + " = -5", "count 7 = 900", "still feed 1 2 3 4 5 = -5",
                "land 900 = 0", "feed 1 2 3 4 5 = 20");
    }

    @Says("Refused calls answer by a code and change nothing")
    static void promise02_theTapeStays() {
        Calls.run("", "tape " + " ".repeat(892) + "house 7;", "count 7 = 900",
                "still feed 0x66666666 0 0 0 0 = -5", "land 900 = 1", "house 0 0 = 7");
        Calls.run("", "tape house 7;" + " ".repeat(892), "still feed 0x66666666 0 0 0 0 = -5",
                "land 900 = 1", "house 0 0 = 7");
    }

    // ---- promise 3

    @Says("The first n bytes of THE TAPE (which is empty then) are THE LAND")
    static void promise03_theFirstNBytes() {
        Calls.run("", "tape house 7;house 8;fly ", "land 8 = 1", "count 0 = 1", "count 7 = 0",
                "still land 1 = -3", "tape house 7;house 8;fly ", "land 16 = 2", "count 7 = 0",
                "tape house 7;house 8;fly ", "land 20 = -32", "fault 1 = 20", "count 7 = 0",
                "tape house 7;house 8;fly ", "land 7 = -32", "fault 1 = 7", "count 7 = 0",
                BLANKS + " = 20");
    }

    @Says("The first n bytes of THE TAPE (which is empty then) are THE LAND")
    static void promise03_noneOfThem() {
        Calls.run(TWO, "land 0 = 0", "count 0 = 0", "count 8 = 0", "tape house 7;", "land 0 = 0",
                "count 0 = 0", "count 7 = 0");
    }

    @Says("THE LAND is a TEXT of at most 900 bytes")
    static void promise03_allOf900() {
        Calls.run("", "read " + "fly 1;".repeat(150) + " = 150", "count 8 = 150", "count 4 = 1");
        Calls.run("", "read " + "fly 1;".repeat(149) + "fly 2; = 150", "count 4 = 2");
        Calls.run("", "read house" + " ".repeat(892) + "20; = 1", "house 0 0 = 20");
        Calls.run("", "read house" + "\n".repeat(893) + "20 = -32", "fault 1 = 900");
    }

    @Says("-3: n is below 0 or above what there is (THE TAPE stays)")
    static void promise03_nBelow0OrTooGreat() {
        Calls.run(TWO, "still land -1 = -3", "still land 1 = -3", "still land 20 = -3",
                "tape house 7;house 8;    ", "count 7 = 20", "still land 21 = -3",
                "still land -1 = -3", "still land " + LEAST_INT + " = -3",
                "still land " + GREATEST_INT + " = -3", "count 7 = 20", "land 20 = 2");
        Calls.run("", "tape " + " ".repeat(892) + "house 7;", "still land 901 = -3",
                "still land -900 = -3", "land 900 = 1", "still land 900 = -3", "house 0 0 = 7");
    }

    @Says("HOUR is 0: how many LINES (all stays with a FAULT)")
    static void promise03_hourIs0Again() {
        Calls.run(TWO, "times 101 live 99", "count 2 = 9999", "land 0 = 0", "count 2 = 0",
                "pass = 0", "count 2 = 1");
    }

    @Says("HOUR is 0: how many LINES (all stays with a FAULT)")
    static void promise03_howManyLines() {
        Calls.run("", "read ; = -32", "read fly 1; = 1", "read fly 1;fly 2; = 2", "count 4 = 2",
                "read full 3;full 2; = 2", "count 3 = 2", "count 4 = 8", "count 8 = 2",
                "read \n = 0", "count 8 = 0", "count 3 = 5");
    }

    @Says("HOUR is 0: how many LINES (all stays with a FAULT)")
    static void promise03_allStaysWithAFault() {
        String lived = "fly 40;full 2;house 9 level 1 stock 5 thirst 1;house 9 level 1;"
                + "rope 0 1 long 2 at 1;rope 0 1 long 2 at 1;";
        Calls.run(lived, "row 1 1: 0 -1 20", "pass = 0", "pull 0 0 = 1", "image 1 = 0",
                "stones 0 true 4 = 8", "cut 1 = 0", "pass = 0", "count 2 = 3",
                "keeps read house 3;$ = -31", "keeps read house 3;; = -32",
                "keeps read full 9;fly 41; = -33", "keeps read " + houses(11) + " = -34",
                "keeps read house = -32", "count 7 = 0", "count 2 = 3", "count 8 = 6");
    }

    @Says("All buckets are empty at first.")
    static void promise03_nothingOfTheLandAhead() {
        // As full as a land can be: sixteen ropes, all filled, drunk from or cut.
        String lived = "full 9;fly 40;house 20 level 1 stock 99 thirst 3;".concat(
                "house 0 level 1 thirst 4095;".repeat(9)) + "rope 0 9 long 2 at 1 stones 9 9;".repeat(16);
        Calls.run("house 9 level 1 thirst 1;house 9 level 1 thirst 2;rope 0 1 long 2 at 1 stones 1 1;",
                "pass = 0", "pull 0 0 = 1", "pull 1 0 = 0", "pull 1 0 = 1", "cut 0 = 0",
                "house 0 4 = 1", "house 1 4 = 1", "calm = 0", "custom 1 0 = 0",
                "read " + TWO + "rope 0 1 long 2; = 3",
                "house 0 1 = 3", "house 0 2 = 9", "house 0 3 = 0", "house 0 4 = 0", "house 1 3 = 0",
                "house 1 4 = 0", "house 1 5 = 0", "house 1 6 = 0", "rope 0 3 = 0", "rope 0 5 = 0",
                "rope 0 6 = 0", "rope 0 7 = 2", "rope 0 8 = 2", "rope 0 9 = 0");
        Calls.run(lived, "pass = 0", "count 6 = 25", "pull 0 15 = 1", "cut 15 = 0", "count 3 = 9",
                "calm = 0", "house 0 5 = 1",
                "read " + TWO + "rope 0 1 long 2;".repeat(16) + " = 18", "count 3 = 5", "count 4 = 8",
                "count 6 = 0", "rests = 65535", "even = 0", "rope 15 9 = 0", "rope 15 3 = 0",
                "rope 15 6 = 0", "rope 15 7 = 2", "rope 15 8 = 2", "house 0 3 = 0", "house 0 4 = 0");
    }

    @Says("-30 less the FAULT")
    static void promise03_minus31To34() {
        Calls.run("", "read ! = -31", "read fly = -32", "read fly 0; = -33",
                "read " + houses(11) + " = -34");
    }

    @Says("house: STRENGTH 0 to 20")
    static void promise03_strength0To20() {
        bounds("house #;", 0, 20, "house 0 0");
        bounds("house 3;house # level 2 stock 1 thirst 1;", 0, 20, "house 1 0");
    }

    @Says("LEVEL 1 to 9 (3 without)")
    static void promise03_level1To9() {
        bounds("house 0 level #;", 1, 9, "house 0 1");
        bounds("house 0 level 5;house 20 level # stock 0;", 1, 9, "house 1 1");
        fine("house 0 level 7;house 0;", "house 0 1 = 7", "house 1 1 = 3");
    }

    @Says("STOCK 0 to 99 (9): so many buckets full")
    static void promise03_stock0To99() {
        bounds("house 0 stock #;", 0, 99, "house 0 2");
        bounds("house 0 level 1 stock # thirst 2;", 0, 99, "count 5");
        fine("house 0 stock 7;house 0;", "house 0 2 = 7", "house 1 2 = 9", "count 5 = 16");
    }

    @Says("THIRST 0 to 4095 (0): HOURS modulo 12 as bits.")
    static void promise03_thirst0To4095() {
        bounds("house 0 thirst #;", 0, 4095, "house 0 3");
        bounds("house 0 stock 1 thirst #;", 0, 4095, "house 0 3");
        fine("house 0 thirst 7;house 0;", "house 0 3 = 7", "house 1 3 = 0");
    }

    @Says("HOUSES are numbered from 0 on as they come, 10 at most.")
    static void promise03_tenHouses() {
        StringBuilder ten = new StringBuilder();
        for (int h = 0; h < 10; h++) {
            ten.append("house ").append(h + 5).append(';');
        }
        fine(ten.toString(), "count 0 = 10", "house 0 0 = 5", "house 9 0 = 14", "house 10 0 = -2");
        fine(houses(9), "count 0 = 9");
        faulty(houses(11), 4, 80);
    }

    @Says("rope: two unlike HOUSES told ahead, its FIRST and SECOND")
    static void promise03_theHousesOfARope() {
        bounds(houses(9) + "house 1;rope # 5 long 2;", 0, 9, "rope 0 0");
        bounds(houses(9) + "house 1;rope 5 # long 2;", 0, 9, "rope 0 1");
        // A house that comes later is none of it yet.
        fine(TWO + "house 1;rope 2 1 long 2;house 1;rope 3 1 long 2;", "rope 1 0 = 3");
        faulty(TWO + "house 1;rope 3 1 long 2;house 1;", 3, 29);
        faulty("rope 0 1 long 2;", 3, 5);
        faulty("house 1;rope 0 1 long 2;house 1;", 3, 15);
        faulty(TWO + "rope 0 0 long 2;", 3, 23);
        faulty(TWO + "rope 1 1 long 2;", 3, 23);
    }

    @Says("LENGTH 2 to 9")
    static void promise03_length2To9() {
        bounds(TWO + "rope 0 1 long #;", 2, 9, "rope 0 2");
        bounds(TWO + "rope 0 1 long # at 2 stones 1 1;", 2, 9, "rope 0 2");
    }

    @Says("DEPTH of the first one's bucket 0 to LENGTH (0), the second one's is LENGTH less that")
    static void promise03_depth0ToLength() {
        bounds(TWO + "rope 0 1 long 2 at #;", 0, 2, "rope 0 3");
        bounds(TWO + "rope 0 1 long 9 at #;", 0, 9, "rope 0 3");
        bounds(TWO + "rope 0 1 long 9;rope 0 1 long 5 at # stones 1 1;", 0, 5, "rope 1 3");
        fine(TWO + "rope 0 1 long 5;rope 0 1 long 5 at 5;rope 0 1 long 5 at 1;", "rope 0 3 = 0",
                "rope 0 4 = 5", "rope 1 3 = 5", "rope 1 4 = 0", "rope 2 4 = 4");
    }

    @Says("stones: 0 to 9 in the first bucket, in the second (0, 0)")
    static void promise03_stones0To9() {
        for (int n = 0; n < 10; n += 9) {
            fine(TWO + "rope 0 1 long 2 stones " + n + " " + (9 - n) + ";", "rope 0 7 = " + (2 + n),
                    "rope 0 8 = " + (11 - n));
        }
        fine(TWO + "rope 0 1 long 2 stones 9 9;rope 0 1 long 2;", "rope 0 7 = 11", "rope 0 8 = 11",
                "rope 1 7 = 2", "rope 1 8 = 2");
        faulty(TWO + "rope 0 1 long 2 stones 10 0;", 3, 39);
        faulty(TWO + "rope 0 1 long 2 stones 0 10;", 3, 41);
        faulty(TWO + "rope 0 1 long 2 stones 0;", 2, 40);
    }

    @Says("ROPES likewise, 16 at most.")
    static void promise03_sixteenRopes() {
        String rope = "rope 0 1 long 2;";
        fine(TWO + rope.repeat(15) + "rope 1 0 long 9;", "count 1 = 16", "rope 15 2 = 9",
                "rope 15 0 = 1", "rope 0 0 = 0", "rope 16 0 = -2");
        fine(TWO + rope.repeat(15), "count 1 = 15", "rope 15 0 = -2");
        faulty(TWO + rope.repeat(17), 4, 16 + 16 * 16);
    }

    @Says("full: 1 to 9, how much heavier a full bucket is (5)")
    static void promise03_full1To9() {
        bounds("full #;", 1, 9, "count 3");
        bounds("full 2;full #;", 1, 9, "count 3");
        fine("fly 9;", "count 3 = 5");
    }

    @Says("fly: 1 to 40 (8)")
    static void promise03_fly1To40() {
        bounds("fly #;", 1, 40, "count 4");
        bounds("fly 2;fly #;", 1, 40, "count 4");
        fine("full 9;", "count 4 = 8");
    }

    // ---- promise 4

    @Says("1 no TOKEN begins so")
    static void promise04_eachByteAtFirst() {
        for (int sign = 0; sign < 256; sign++) {
            String text = String.valueOf((char) sign);
            boolean digit = sign >= '0' && sign <= '9';
            boolean letter = sign >= 'a' && sign <= 'z';
            if (sign == 10 || sign == 32) {
                fine(text, "count 8 = 0");
            } else {
                faulty(text, digit || letter || sign == ';' ? 2 : 1, 0);
            }
        }
    }

    @Says("TOKENS, as long as they go on, between them blanks (10, 32): words (small letters), N (1 to 4 digits), the sign ;.")
    static void promise04_eachByteBehindANumber() {
        for (int sign = 0; sign < 256; sign++) {
            String text = "fly 1" + (char) sign + ";";
            if (sign == 10 || sign == 32) {
                fine(text, "count 4 = 1");
            } else if (sign >= '0' && sign <= '9') {
                fine(text, "count 4 = 1" + (char) sign);
            } else if (sign == ';') {
                faulty(text, 2, 6);
            } else {
                faulty(text, sign >= 'a' && sign <= 'z' ? 2 : 1, 5);
            }
        }
    }

    @Says("TOKENS, as long as they go on, between them blanks (10, 32)")
    static void promise04_asLongAsTheyGoOn() {
        fine("fly 40;", "count 4 = 40");
        faulty("fly 4 0;", 2, 6);
        faulty("fl y 4;", 2, 0);
        faulty("flyfly 4;", 2, 0);
        faulty("fl;", 2, 0);
        faulty("flyy 4;", 2, 0);
        faulty("fly 4;f", 2, 6);
        fine("\n fly \n\n 4 \n;\n\n", "count 4 = 4");
        fine("fly4;full3;house5level6stock7thirst8;", "count 4 = 4", "count 3 = 3", "house 0 3 = 8");
    }

    @Says("N (1 to 4 digits)")
    static void promise04_oneToFourDigits() {
        fine("fly 7;fly 07;fly 007;fly 0007;", "count 4 = 7");
        fine("house 1 thirst 4095;", "house 0 3 = 4095");
        faulty("fly 00007;", 1, 4);
        faulty("fly 9999;", 3, 4);
    }

    @Says("(5 digits and more: at their first)")
    static void promise04_fiveDigitsAndMore() {
        faulty("fly 10000;", 1, 4);
        faulty("fly 99999;", 1, 4);
        faulty("fly 000000000000000000000000007;", 1, 4);
        faulty("fly 4294967303;", 1, 4);
        faulty("fly 18446744073709551623;", 1, 4);
        faulty("12345", 1, 0);
    }

    @Says("FAULTS, the first along the text, of one TOKEN the least kind")
    static void promise04_theFirstAlongTheText() {
        faulty("fly 0;fly;!", 3, 4);
        faulty("fly;fly 0;!", 2, 3);
        faulty("fly !;fly 0;", 1, 4);
        faulty("fly 0!;", 3, 4);
        faulty("fly 41 fly", 3, 4);
        faulty(houses(10) + "house !", 4, 80);
        faulty("fly 0;" + houses(11), 3, 4);
    }

    @Says("FAULTS, the first along the text, of one TOKEN the least kind")
    static void promise04_theLeastKindOfAToken() {
        // 1 ahead of 2 and of 3, 2 ahead of 3 and of 4.
        faulty("fly 1 12345;", 1, 6);
        faulty("12345;", 1, 0);
        faulty("fly 10000;", 1, 4);
        faulty("fly 1 99;", 2, 6);
        faulty("99;", 2, 0);
        faulty(houses(10) + "fly house 1;", 2, 84);
        faulty(houses(10) + "house", 4, 80);
        faulty(houses(10) + "houses 1;", 2, 80);
        faulty(TWO + "rope 0 1 long 2;".repeat(16) + "fly 1 rope", 2, 278);
    }

    @Says("2 it can't stand there (the end: the text's length)")
    static void promise04_theEnd() {
        String[] texts = {
            "house", "house 1", "house 1 level", "house 1 level 2", "house 1 stock",
            "house 1 stock 3", "house 1 thirst", "house 1 thirst 4", "full", "full 1", "fly", "fly 1",
            TWO + "rope", TWO + "rope 0", TWO + "rope 0 1", TWO + "rope 0 1 long",
            TWO + "rope 0 1 long 2", TWO + "rope 0 1 long 2 at", TWO + "rope 0 1 long 2 at 1",
            TWO + "rope 0 1 long 2 stones", TWO + "rope 0 1 long 2 stones 1",
            TWO + "rope 0 1 long 2 stones 1 1",
        };
        for (String text : texts) {
            faulty(text, 2, text.length());
            faulty(text + " ", 2, text.length() + 1);
            faulty(text + "\n \n", 2, text.length() + 3);
        }
        Calls.run("", "tape fly 1;fly 2;", "land 11 = -32", "fault 1 = 11");
    }

    @Says("2 it can't stand there")
    static void promise04_whereItCantStand() {
        faulty(";", 2, 0);
        faulty("fly 1;;", 2, 6);
        faulty("fly;", 2, 3);
        faulty("full fly;", 2, 5);
        faulty("level 1;", 2, 0);
        faulty("bell 1;", 2, 0);
        // Words that are one letter off, at their first or their last.
        faulty("mouse 1;", 2, 0);
        faulty("housf 1;", 2, 0);
        faulty("bull 1;", 2, 0);
        faulty("fulm 1;", 2, 0);
        faulty("sly 1;", 2, 0);
        faulty("flx 1;", 2, 0);
        faulty("house 1 bevel 1;", 2, 8);
        faulty("house 1 levem 1;", 2, 8);
        faulty("house 1 ttock 1;", 2, 8);
        faulty("house 1 stocj 1;", 2, 8);
        faulty("house 1 shirst 1;", 2, 8);
        faulty("house 1 thirss 1;", 2, 8);
        faulty(TWO + "pope 0 1 long 2;", 2, 16);
        faulty(TWO + "ropf 0 1 long 2;", 2, 16);
        faulty(TWO + "rope 0 1 song 2;", 2, 25);
        faulty(TWO + "rope 0 1 lonk 2;", 2, 25);
        faulty(TWO + "rope 0 1 long 2 it 1;", 2, 32);
        faulty(TWO + "rope 0 1 long 2 as 1;", 2, 32);
        faulty(TWO + "rope 0 1 long 2 atones 1 1;", 2, 32);
        faulty(TWO + "rope 0 1 long 2 stonet 1 1;", 2, 32);
        faulty("house level 1;", 2, 6);
        faulty("house 1 level ;", 2, 14);
        faulty("house 1 stock 1 level 1;", 2, 16);
        faulty("house 1 thirst 1 stock 1;", 2, 17);
        faulty("house 1 level 1 level 1;", 2, 16);
        faulty("house 1 thirst 1 thirst 1;", 2, 17);
        faulty("house 1 house 1;", 2, 8);
        faulty("house 1 2;", 2, 8);
        faulty(TWO + "rope 0 long 2;", 2, 23);
        faulty(TWO + "rope 0 1 2;", 2, 25);
        faulty(TWO + "rope 0 1 at 1 long 2;", 2, 25);
        faulty(TWO + "rope 0 1 long 2 stones 1 1 at 1;", 2, 43);
        faulty(TWO + "rope 0 1 long 2 stones 1 1 1;", 2, 43);
        faulty(TWO + "rope 0 1 long 2 level 1;", 2, 32);
    }

    @Says("3 an N out of its bounds (the second HOUSE of a rope that is the first, too)")
    static void promise04_theSecondThatIsTheFirst() {
        faulty(TWO + "rope 1 1 long 2;", 3, 23);
        faulty(TWO + "rope 0 00 long 2;", 3, 23);
        faulty(TWO + "rope 2 2 long 2;", 3, 21);
        faulty(TWO + "rope 1 2 long 2;", 3, 23);
        fine(TWO + "rope 1 0 long 2;", "rope 0 0 = 1", "rope 0 1 = 0");
    }

    @Says("4 the first TOKEN of an 11th house, a 17th rope.")
    static void promise04_theEleventhAndTheSeventeenth() {
        faulty(houses(10) + "house 1;", 4, 80);
        faulty(houses(10) + " \n house", 4, 83);
        faulty(houses(10) + "house 21;", 4, 80);
        faulty(houses(10) + "fly 2;house 1;", 4, 86);
        String ropes = TWO + "rope 0 1 long 2;".repeat(16);
        faulty(ropes + "rope 0 1 long 2;", 4, 272);
        faulty(ropes + "rope", 4, 272);
        faulty(ropes + "rope 9 9", 4, 272);
        fine(ropes + "house 1;", "count 0 = 3");
        fine(houses(10) + "rope 0 9 long 2;fly 1;full 1;", "count 8 = 13");
    }

    @Says("Of the latest land() that was read, what 0: its FAULT (0), 1: its place (NONE).")
    static void promise04_theLatestThatWasRead() {
        Calls.run("", "fault 0 = 0", "fault 1 = -1", "still land 1 = -3", "fault 0 = 0",
                "read fly; = -32", "fault 0 = 2", "fault 1 = 3", "still land 1 = -3",
                "still land -1 = -3", "fault 0 = 2", "fault 1 = 3", "land 0 = 0", "fault 0 = 0",
                "fault 1 = -1", "read ! = -31", "fault 0 = 1", "fault 1 = 0", "read fly 0; = -33",
                "fault 0 = 3", "fault 1 = 4", "read fly 1; = 1", "fault 0 = 0", "fault 1 = -1");
    }

    @Says("NONE for others.")
    static void promise04_noneForOthers() {
        Calls.run("", "fault -1 = -1", "fault 2 = -1", "read fly; = -32", "still fault 2 = -1",
                "still fault -1 = -1", "fault " + LEAST_INT + " = -1",
                "fault " + GREATEST_INT + " = -1", "still fault 0 = 2", "still fault 1 = 3");
    }

    // ---- promises 5 and 6

    @Says("7: its ROPES as bits (CUT ones, too). -2.")
    static void promise05_noSuchHouse() {
        Calls.run(houses(9) + "house 7;", "still house 9 0 = 7", "still house 10 0 = -2",
                "still house -1 0 = -2", "house 10 7 = -2", "house " + LEAST_INT + " 0 = -2",
                "house " + GREATEST_INT + " 0 = -2");
        Calls.run("house 7;", "house 0 0 = 7", "house 1 0 = -2", "house 9 0 = -2");
        // What was told ahead of this land is no house of it.
        Calls.run(houses(2), "read house 7; = 1", "house 1 0 = -2");
    }

    @Says("7: its ROPES as bits (CUT ones, too). -2.")
    static void promise05_noSuchWhat() {
        Calls.run("house 7;", "still house 0 7 = 0", "still house 0 8 = -2", "still house 0 -1 = -2",
                "house 0 " + LEAST_INT + " = -2", "house 0 " + GREATEST_INT + " = -2",
                "house 1 8 = -2");
    }

    @Says("7: its ROPES as bits (CUT ones, too).")
    static void promise05_ropesAsBits() {
        String text = houses(3) + "rope 0 1 long 2;".repeat(15) + "rope 2 0 long 2;";
        Calls.run(text, "house 0 7 = 65535", "house 1 7 = 32767", "house 2 7 = 32768", "cut 15 = 0",
                "cut 0 = 0", "house 0 7 = 65535", "house 1 7 = 32767", "house 2 7 = 32768");
        Calls.run(houses(1), "house 0 7 = 0");
    }

    @Says("2: STOCK now, 3: THIRST, 4: how many it HAS, 5: QUENCHED, 6: WASTED")
    static void promise05_stockToItsLast() {
        // The first bucket is filled at once and drunk two hours later, as often as it can be.
        String text = "fly 40;house 9 level 1 stock 2 thirst 2;house 1 stock 0;rope 0 1 long 2 at 1;";
        Calls.run(text, "house 0 2 = 2", "house 0 4 = 0", "pass = 0", "house 0 2 = 1",
                "house 0 4 = 0", "pull 0 0 = 1", "house 0 2 = 1", "house 0 4 = 1", "house 0 5 = 1",
                "house 0 6 = 0", "pull 1 0 = 0", "house 0 2 = 0", "pull 0 0 = 1", "house 0 2 = 0",
                "house 0 4 = 2", "house 0 5 = 1", "house 0 6 = 1", "pull 1 0 = 0", "pull 0 0 = 0",
                "house 0 2 = 0", "house 0 4 = 2", "count 5 = 0");
    }

    @Says("9: 1 if it is CUT, else 0. -2.")
    static void promise06_noSuchRope() {
        Calls.run(TWO + "rope 0 1 long 2;".repeat(15) + "rope 0 1 long 7;", "still rope 15 2 = 7",
                "still rope 16 2 = -2", "still rope -1 2 = -2", "rope 16 10 = -2",
                "rope " + LEAST_INT + " 0 = -2", "rope " + GREATEST_INT + " 0 = -2");
        Calls.run(TWO + "rope 0 1 long 7;", "rope 0 2 = 7", "rope 1 2 = -2");
        Calls.run(TWO, "rope 0 0 = -2");
        Calls.run(TWO + "rope 0 1 long 7;", "read house 7; = 1", "rope 0 2 = -2");
    }

    @Says("9: 1 if it is CUT, else 0. -2.")
    static void promise06_noSuchWhat() {
        Calls.run(TWO + "rope 0 1 long 7;", "still rope 0 9 = 0", "still rope 0 10 = -2",
                "still rope 0 -1 = -2", "rope 0 " + LEAST_INT + " = -2",
                "rope 0 " + GREATEST_INT + " = -2", "cut 0 = 0", "rope 0 9 = 1", "rope 0 10 = -2");
    }

    @Says("Of a ROPE, what 0: its FIRST, 1: its SECOND, 2: LENGTH")
    static void promise06_eachOfThree() {
        Calls.run(houses(4) + "rope 0 1 long 2;rope 2 0 long 3;rope 3 2 long 4;", "rope 0 0 = 0",
                "rope 0 1 = 1", "rope 0 2 = 2", "rope 1 0 = 2", "rope 1 1 = 0", "rope 1 2 = 3",
                "rope 2 0 = 3", "rope 2 1 = 2", "rope 2 2 = 4");
    }

    @Says("3: DEPTH of the first bucket, 4: of the second, 5: 1 if the first is full, 6: the second (else 0), 7: what the first weighs, 8: the second")
    static void promise06_upAndDownFullAndEmpty() {
        Calls.run("full 9;house 0 level 2 stock 1;house 0 level 2 stock 1;rope 0 1 long 2;"
                + "rope 0 1 long 2 at 2 stones 9 9;", "rope 0 3 = 0", "rope 0 4 = 2", "rope 1 3 = 2",
                "rope 1 4 = 0", "rope 0 6 = 0", "rope 1 5 = 0", "rope 1 7 = 11", "pass = 0",
                "rope 0 5 = 0", "rope 0 6 = 1", "rope 0 7 = 2", "rope 0 8 = 11", "rope 1 5 = 1",
                "rope 1 6 = 0", "rope 1 7 = 20", "rope 1 8 = 11");
    }
}
