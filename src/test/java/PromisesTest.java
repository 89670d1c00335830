/**
 * For each promise of the document runs of calls on new objects, each call with the answer that is
 * due, told as Calls says.
 */
public final class PromisesTest {
    private static final String TO_LAST_HOUR = "times 101 live 99";
    private static final String TWO = "house 1;house 1;";

    public static void main(String[] args) {
        theLand();
        theFaults();
        theHouses();
        theHours();
        theToldHours();
        theCustom();
        theDrought();
        theRest();
        theRings();
        theSought();
        theAlone();
        theDwellings();
        theSeen();
        theRows();
        theImages();
        System.out.println(Calls.wrong == 0 ? "all " + Calls.calls + " answers are as due"
                : Calls.wrong + " answers are not as due");
        if (Calls.wrong != 0) {
            System.exit(1);
        }
    }

    private static void run(int promise, String text, String... steps) {
        Calls.name = "promise " + promise;
        Calls.run(text, steps);
    }

    private static String many(String line, int times) {
        return line.repeat(times);
    }

    // ---- the land

    private static void theLand() {
        run(1, "", "count 0 = 0", "count 1 = 0", "count 2 = 0", "count 3 = 5", "count 4 = 8",
                "count 5 = 0", "count 6 = 0", "count 7 = 0", "count 8 = 0", "fault 0 = 0",
                "fault 1 = -1", "house 0 0 = -2", "rope 0 0 = -2", "perform 0 = -6",
                "perform 3 = -6", "restore 0 = -5", "restore 1 = -5", "neighbours 0 = -2");

        // "full", " 7; ", and blanks: the highest byte of each int comes first.
        run(2, "", "feed 1718971500 540490528 538976288 538976288 538976288 = 20", "count 7 = 20",
                "feed 538976288 538976288 538976288 538976288 538976288 = 40", "land 7 = 1",
                "count 3 = 7", "count 7 = 0");
        run(2, "", "times 44 feed 538976288 538976288 538976288 538976288 538976288",
                "count 7 = 880", "feed 538976288 538976288 538976288 538976288 538976288 = 900",
                "feed 538976288 538976288 538976288 538976288 538976288 = -5", "count 7 = 900",
                "feed 1 2 3 4 5 = -5", "land 901 = -3", "count 7 = 900", "land 900 = 0",
                "count 7 = 0", "feed 1 2 3 4 5 = 20");

        run(3, "", "land 0 = 0", "land 1 = -3", "land -1 = -3", "land -2147483648 = -3",
                "land 2147483647 = -3", "feed 0 0 0 0 0 = 20", "land 21 = -3", "land -1 = -3",
                "count 7 = 20", "land 0 = 0", "count 7 = 0");
        run(3, TWO + "rope 0 1 long 4 stones 1 0;full 2;fly 3;", "count 8 = 5", "count 3 = 2",
                "count 4 = 3", "pass = 0", "cut 0 = 0", "read house 9;fly = -32", "count 2 = 1",
                "count 7 = 0", "count 8 = 5", "count 0 = 2", "rope 0 9 = 1", "rope 0 3 = 1",
                "read house 9; = 1", "count 0 = 1", "count 1 = 0", "count 2 = 0", "count 3 = 5",
                "count 4 = 8", "count 8 = 1", "house 0 0 = 9", "house 1 0 = -2");
        // Nothing of the land ahead stays in the next one.
        String drunk = "house 9 level 1 stock 5 thirst 4095;house 9 level 1;rope 0 1 long 2 at 1;";
        run(3, drunk, "pass = 0", "pull 0 0 = 1", "house 0 4 = 1", "house 0 5 = 1", "cut 0 = 0",
                "read " + drunk + " = 3", "house 0 2 = 5", "house 0 4 = 0", "house 0 5 = 0",
                "rope 0 3 = 1", "rope 0 5 = 0", "rope 0 6 = 0", "rope 0 9 = 0", "count 2 = 0",
                "read house 1;house 1;rope 0 1 long 2; = 3", "house 0 1 = 3", "house 0 2 = 9",
                "house 0 3 = 0", "rope 0 3 = 0", "rope 0 7 = 2");
        run(3, "full 2;full 3;fly 4;fly 5;", "count 3 = 3", "count 4 = 5", "count 8 = 4");
        run(3, many("house 1;", 10) + many("rope 0 9 long 9;", 16), "count 0 = 10",
                "count 1 = 16", "count 8 = 26", "house 9 7 = 65535", "house 5 7 = 0");
        run(3, "", "read " + many(" ", 891) + "house 20; = 1", "house 0 0 = 20");
    }

    private static void fine(String text, int lines) {
        run(4, "", "read " + text + " = " + lines, "fault 0 = 0", "fault 1 = -1");
    }

    private static void faulty(String text, int kind, int place) {
        run(4, "", "read " + text + " = " + (-30 - kind), "fault 0 = " + kind,
                "fault 1 = " + place, "count 0 = 0", "count 8 = 0", "fault 2 = -1",
                "fault -1 = -1");
    }

    private static void theFaults() {
        fine(" \n\n ", 0);
        fine("house 0001 ;\nhouse\n20 ; ", 2);
        fine("house5level1stock0thirst0;", 1);
        fine("house 0 level 9 stock 99 thirst 4095;", 1);
        fine(TWO + "rope 0 1 long 9 at 9 stones 9 9;", 3);
        fine(TWO + "rope 1 0 long 2 at 0 stones 0 0;", 3);
        fine(TWO + "rope 0 1 long 2 stones 0 0;", 3);
        fine("full 1;full 9;fly 1;fly 40;", 4);
        faulty("house 21;", 3, 6);
        faulty("house;", 2, 5);
        faulty("house", 2, 5);
        faulty("house 5", 2, 7);
        faulty("house 5 \n", 2, 9);
        faulty("house 5;;", 2, 8);
        faulty("house 5 5;", 2, 8);
        faulty("5;", 2, 0);
        faulty("12345;", 1, 0);
        faulty("house 00001;", 1, 6);
        faulty("house 123456789012;", 1, 6);
        faulty("House 1;", 1, 0);
        faulty("house 1\t;", 1, 7);
        faulty("house 1,", 1, 7);
        faulty("house -1;", 1, 6);
        faulty("house 1 \u00e9;", 1, 8);
        faulty("house \u0000;", 1, 6);
        faulty("hous e 1;", 2, 0);
        faulty("houses 1;", 2, 0);
        faulty("level 1;", 2, 0);
        faulty("house 1 level 0;", 3, 14);
        faulty("house 1 level 10;", 3, 14);
        faulty("house 1 level;", 2, 13);
        faulty("house 1 level 1 level 1;", 2, 16);
        faulty("house 1 stock 100;", 3, 14);
        faulty("house 1 thirst 4096;", 3, 15);
        faulty("house 1 thirst 9999;", 3, 15);
        faulty("house 1 thirst 1 stock 1;", 2, 17);
        faulty("house 1 stock 1 level 1;", 2, 16);
        faulty("house 21 $", 3, 6);
        faulty("house $ 21", 1, 6);
        faulty("rope 0 1 long 2;", 3, 5);
        faulty("house 1;rope 0 1 long 2;", 3, 15);
        faulty("house 1;rope 0 1 long 2;house 1;", 3, 15);
        faulty(TWO + "rope 0 0 long 2;", 3, 23);
        faulty(TWO + "rope 0 2 long 2;", 3, 23);
        faulty(TWO + "rope 2 0 long 2;", 3, 21);
        faulty(TWO + "rope 2 2 long 2;", 3, 21);
        faulty(TWO + "rope 0 long 2;", 2, 23);
        faulty(TWO + "rope 0 1;", 2, 24);
        faulty(TWO + "rope 0 1 2;", 2, 25);
        faulty(TWO + "rope 0 1 long 1;", 3, 30);
        faulty(TWO + "rope 0 1 long 10;", 3, 30);
        faulty(TWO + "rope 0 1 long 4 at 5;", 3, 35);
        faulty(TWO + "rope 0 1 long 4 stones 1;", 2, 40);
        faulty(TWO + "rope 0 1 long 4 stones 10 1;", 3, 39);
        faulty(TWO + "rope 0 1 long 4 stones 1 10;", 3, 41);
        faulty(TWO + "rope 0 1 long 4 stones 1 1 at 1;", 2, 43);
        faulty(TWO + "rope 0 1 at 1 long 4;", 2, 25);
        faulty("full 0;", 3, 5);
        faulty("full 10;", 3, 5);
        faulty("full ;", 2, 5);
        faulty("fly 0;", 3, 4);
        faulty("fly 41;", 3, 4);
        faulty("fly 1 1;", 2, 6);
        faulty(many("house 1;", 10) + "house 99 $", 4, 80);
        faulty(many("house 1;", 10) + "house", 4, 80);
        faulty(TWO + many("rope 0 1 long 2;", 16) + " rope 9", 4, 273);
        // Only a land() that was read counts, and the latest of these.
        run(4, "fly 1;", "read fly; = -32", "fault 1 = 3", "land 1 = -3", "fault 0 = 2",
                "fault 1 = 3", "read fly 2; = 1", "fault 0 = 0", "fault 1 = -1");
    }

    private static void theHouses() {
        run(5, "house 20 level 9 stock 99 thirst 4095;house 0;house 7 stock 0;rope 1 0 long 3;"
                + "rope 2 1 long 3;rope 2 1 long 3;", "house 0 0 = 20", "house 0 1 = 9",
                "house 0 2 = 99", "house 0 3 = 4095", "house 0 4 = 0", "house 0 5 = 0",
                "house 0 6 = 0", "house 0 7 = 1", "house 1 0 = 0", "house 1 1 = 3",
                "house 1 2 = 9", "house 1 3 = 0", "house 1 7 = 7", "house 2 2 = 0",
                "house 2 7 = 6", "cut 1 = 0", "house 1 7 = 7", "house 2 7 = 6", "house 0 8 = -2",
                "house 0 -1 = -2", "house 3 0 = -2", "house -1 0 = -2", "house 3 99 = -2");
        run(6, "full 4;house 1 level 2;house 1 level 1 stock 0;rope 1 0 long 5 at 2 stones 3 1;",
                "rope 0 0 = 1", "rope 0 1 = 0", "rope 0 2 = 5", "rope 0 3 = 2", "rope 0 4 = 3",
                "rope 0 5 = 0", "rope 0 6 = 0", "rope 0 7 = 5", "rope 0 8 = 3", "rope 0 9 = 0",
                "pass = 0", "rope 0 3 = 3", "rope 0 4 = 2", "rope 0 5 = 0", "rope 0 6 = 1",
                "rope 0 7 = 5", "rope 0 8 = 7", "cut 0 = 0", "rope 0 9 = 1", "rope 0 10 = -2",
                "rope 0 -1 = -2", "rope 1 0 = -2", "rope -1 0 = -2");
    }

    // ---- hours

    private static void theHours() {
        // Eight more is enough to fly by custom, seven is not.
        run(7, "house 0;house 0 level 9;rope 0 1 long 6 stones 8 0;", "pass = 0", "rope 0 3 = 6",
                "rope 0 4 = 0", "rope 0 5 = 1", "rope 0 7 = 15", "house 0 2 = 8", "count 2 = 1");
        run(7, "house 0;house 0 level 9;rope 0 1 long 6 stones 7 0;", "pass = 0", "rope 0 3 = 1",
                "rope 0 5 = 0", "pass = 0", "rope 0 3 = 2", "pass = 0", "rope 0 5 = 1");
        run(7, "fly 7;house 0;house 0 level 9;rope 1 0 long 6 at 3 stones 0 7;", "pass = 0",
                "rope 0 3 = 0", "rope 0 4 = 6");
        // None sinks below the rope's length.
        run(7, "house 0 stock 0;house 0 stock 0;rope 0 1 long 3 at 2 stones 1 0;", "pass = 0",
                "rope 0 3 = 3", "pass = 0", "rope 0 3 = 3", "rope 0 4 = 0");
        // The last of the stock goes to the first rope, of one rope to the first bucket.
        run(7, "house 0 level 1 stock 1;house 0 level 9;rope 0 1 long 2 at 1;rope 1 0 long 2 at 1;",
                "pass = 0", "rope 0 5 = 1", "rope 1 6 = 0", "house 0 2 = 0", "count 5 = 9",
                "count 6 = 1");
        run(7, "fly 40;house 0 level 1 thirst 2;house 0 level 9;rope 0 1 long 3 at 2 stones 0 9;",
                "pass = 0", "rope 0 5 = 1", "pass = 1", "rope 0 5 = 0", "house 0 4 = 1",
                "house 0 5 = 1", "house 0 6 = 0");
        run(7, "fly 40;house 0 level 1 thirst 4093;house 0 level 9;rope 0 1 long 3 at 2 stones 0 9;",
                "pass = 0", "pass = 1", "house 0 4 = 1", "house 0 5 = 0", "house 0 6 = 1");
        // Hour 13 is the second one of its day.
        run(7, "fly 40;house 0 level 1 thirst 2;house 0 level 9;rope 0 1 long 3 at 1;", "pass = 0",
                "stones 0 true 5 = 7", "live 12 = 0", "count 2 = 13", "stones 0 true 6 = 8",
                "pass = 1", "house 0 5 = 1");
        run(7, TWO, TO_LAST_HOUR, "count 2 = 9999", "pass = -5", "count 2 = 9999",
                "read house 1; = 1", "pass = 0", "count 2 = 1");
        run(7, TWO, "times 100 live 99", "live 98 = 0", "pass = 0", "pass = -5");

        run(8, "house 5;house 0;house 9;rope 0 1 long 4 at 2;", "pull 0 0 = 0", "rope 0 3 = 1",
                "pull 1 0 = 0", "rope 0 3 = 0", "pull 2 0 = -2", "pull 3 0 = -2", "pull -1 0 = -2",
                "pull 0 1 = -2", "pull 0 -1 = -2", "count 2 = 2", "cut 0 = 0", "pull 0 0 = -5",
                "pull 2 0 = -2", "pull 0 1 = -2", "count 2 = 2");
        run(8, "fly 5;house 5 stock 0;house 4 stock 0;rope 0 1 long 4 at 2;", "pull 0 0 = 0",
                "rope 0 3 = 0", "pull 1 0 = 0", "rope 0 3 = 1");
        run(8, "house 9 level 1;house 9 level 1;rope 0 1 long 2 at 1;", "pass = 0",
                "count 6 = 2", "pull 0 0 = 1", "house 0 4 = 1", "house 0 6 = 1", "rope 0 4 = 2",
                "count 6 = 1");
        run(8, TWO + "rope 0 1 long 2;", TO_LAST_HOUR, "pull 0 0 = -5", "pull 0 1 = -2",
                "count 2 = 9999");

        run(14, "house 9 level 1;house 9 level 1;rope 0 1 long 2 at 1;rope 0 1 long 2 at 1;",
                "cut 2 = -2", "cut -1 = -2", "cut 0 = 0", "cut 0 = -5", "pass = 0", "rope 0 5 = 0",
                "rope 0 6 = 0", "rope 1 5 = 1", "house 0 2 = 8", "stones 0 false 9 = 11",
                "pass = 0", "rope 0 3 = 1", "cut 1 = 0", "rope 1 5 = 1", "count 6 = 0",
                "pull 0 1 = -5", "stones 1 true 9 = 16", "pass = 0", "rope 1 3 = 1", "count 1 = 2");

        run(15, "full 3;house 0 level 1;house 0 level 9;rope 0 1 long 2 at 1 stones 4 5;",
                "stones 0 false 9 = 11", "stones 0 false 0 = 2", "rope 0 7 = 2", "rope 0 8 = 7",
                "stones 0 true 1 = 3", "rope 0 8 = 3", "stones 0 false 1 = 3", "pass = 0",
                "rope 0 5 = 1", "stones 0 false 2 = 7", "stones 0 false 10 = -3",
                "stones 0 true -1 = -3", "rope 0 7 = 7", "stones 1 true 1 = -2",
                "stones -1 false 10 = -2");
    }

    private static void theToldHours() {
        String three = "house 2;house 1;house 1;rope 0 1 long 9 at 4;rope 1 2 long 9 at 4;";
        run(9, three, "row 0 1: 0 20 -1 21 41", "judge 0 0 = -1", "judge 0 1 = 0",
                "judge 0 2 = 2", "judge 0 3 = 0", "judge 0 4 = 4", "count 2 = 0", "rope 0 3 = 4");
        run(9, three, "row 0 1:", "judge 0 0 = -1", "judge 0 2 = 1", "judge 0 4 = 0",
                "row 0 1: -1 -1 -1", "judge 0 2 = 4", "row 0 1: -1 -1 99", "judge 0 0 = 2",
                "judge 0 1 = 1", "judge 0 2 = 2");
        run(9, three, "row 0 1: 0 -1 20 40 -1", "judge 0 0 = 3", "judge 0 1 = 1", "judge 0 2 = 1",
                "judge 0 4 = 1", "row 0 1: 16", "judge 0 1 = 1", "row 0 1: 19", "judge 0 1 = 1",
                "row 0 1: 60", "judge 0 1 = 1", "row 0 1: -2", "judge 0 0 = 0", "judge 0 1 = 1",
                "row 0 1: -20", "judge 0 1 = 1", "row 0 1: 2", "judge 0 1 = 1",
                "row 0 1: 20 21", "judge 0 0 = 1", "judge 0 1 = 2", "row 0 1: 20 22",
                "judge 0 0 = 1", "judge 0 1 = 1", "row 0 1: 20 -1 21", "judge 0 0 = -1",
                "row 0 3: 4294967296", "judge 0 1 = 1", "row 0 3: -4294967297", "judge 0 1 = 1",
                "row 0 3: 9223372036854775807", "judge 0 1 = 1", "cut 0 = 0", "row 0 1: 0",
                "judge 0 1 = 1", "row 0 1: 21 20", "judge 0 1 = 1", "judge 0 0 = 1");
        run(9, "house 9 level 1;house 9 level 1;rope 0 1 long 2 at 1;", "row 1 0: -1 0 -1 20",
                "judge 1 3 = 1", "judge 1 2 = 3", "row 1 0: -1 0 -1 20 -1 20", "judge 1 3 = 2",
                "row 1 0: -1 0 -1 20 -1 20 77", "judge 1 3 = 1", "judge 1 2 = 3", "judge 1 4 = 2",
                "house 0 4 = 0");
        run(9, TWO + "rope 0 1 long 2;", "times 100 live 99", "live 98 = 0", "row 0 1:",
                "judge 0 0 = -1", "judge 0 2 = 1", "row 0 1: 0 -1 20 0", "judge 0 0 = 4",
                "judge 0 1 = 3", "judge 0 2 = 1", "judge 0 4 = 1", "row 0 1: 0 -1 -1 99",
                "judge 0 0 = 2", "judge 0 1 = 3", "row 0 1: 0 -1 99 -1", "judge 0 0 = 2",
                "judge 0 1 = 1", "pass = 0", "row 0 1:", "judge 0 0 = 0", "judge 0 1 = 3",
                "judge 0 2 = 0");
        run(9, TWO, "judge 4 0 = -2", "judge -1 0 = -2", "judge 3 0 = -6", "judge 3 5 = -2",
                "judge 3 -1 = -2", "row 3 0:", "judge 3 5 = -2", "judge 3 4 = 0");

        run(10, three, "row 0 1: 0 -1 0 0 -1 0", "perform 0 = 1", "rope 0 3 = 3", "count 2 = 1",
                "row 0 1: 20 0 -1", "perform 0 = 2", "count 2 = 3", "rope 0 3 = 2");
        run(10, three, "perform 4 = -2", "perform -1 = -2", "perform 2 = -6", "row 2 3: 99",
                "perform 2 = 0", "count 2 = 0", "row 2 3:", "perform 2 = 1", "count 2 = 1");
        run(10, "house 9 level 1;house 9 level 1;rope 0 1 long 2 at 1;", "row 0 0: -1 0",
                "perform 0 = 2", "house 0 4 = 1");
        run(10, TWO, "times 100 live 99", "live 97 = 0", "row 0 1: -1 -1 -1 -1", "perform 0 = 2",
                "count 2 = 9999", "perform 0 = 0");
    }

    private static void theCustom() {
        String both = "fly 40;house 3 level 1 thirst 4095;house 2 level 1 thirst 4095;"
                + "rope 0 1 long 4 at 2;";
        run(11, both, "custom 3 0 = 1", "custom 3 1 = 1", "custom 3 2 = 5", "custom 3 3 = 2",
                "custom 4 2 = 6", "custom 3 10 = 1", "custom 3 11 = 0", "custom 1 0 = 0",
                "count 2 = 0", "rope 0 3 = 2", "custom 99 1 = 1", "custom 3 4 = -2",
                "custom 3 -1 = -2", "custom 3 9 = -2", "custom 3 12 = -2", "custom 0 4 = -2",
                "custom 0 0 = -3", "custom 100 0 = -3", "custom -1 10 = -3");
        // Who does not thirst in that hour pulls nothing.
        run(11, "fly 40;house 3 level 1 thirst 1;house 2 level 1;rope 0 1 long 4 at 2;",
                "custom 1 2 = 1", "custom 12 2 = 1", "custom 13 3 = 0", "live 1 = 0",
                "rope 0 3 = 1", "custom 11 2 = 0");
        run(11, TWO, "times 100 live 99", "live 50 = 0", "custom 49 0 = 0", "custom 50 0 = -5",
                "custom 50 5 = -2", "custom 100 0 = -3", "live 50 = -5", "count 2 = 9950",
                "live 49 = 0", "custom 1 0 = -5", "live 1 = -5");
        run(12, both, "live 3 = 1", "house 0 4 = 1", "house 0 5 = 1", "count 2 = 3",
                "rope 0 3 = 0", "live 0 = -3", "live 100 = -3", "live -5 = -3", "count 2 = 3");
        // The first rope on which the bucket isn't up, cut ones aside.
        String ropes = "house 1 thirst 1;house 0;rope 0 1 long 2;rope 0 1 long 2 at 1;"
                + "rope 0 1 long 2 at 2;";
        run(12, ropes, "live 1 = 0", "rope 0 3 = 0", "rope 1 3 = 0", "rope 2 3 = 2");
        run(12, ropes, "cut 1 = 0", "live 1 = 0", "rope 1 3 = 1", "rope 2 3 = 1");
        // It goes by the depths ahead of the hour.
        run(12, "house 1 thirst 4095;house 0;rope 0 1 long 2 at 1;rope 0 1 long 2 at 2;",
                "live 1 = 0", "rope 0 3 = 0", "rope 1 3 = 2", "live 1 = 0", "rope 1 3 = 1");
    }

    private static void theDrought() {
        // The first draws by seed 1 are 16838, 38526, 10113, 50283.
        String one = "house 1;house 0;rope 0 1 long 4 at 2;";
        run(13, one, "drought 1 1 = 0", "rope 0 3 = 2", "count 2 = 1");
        run(13, one, "drought 1 2 = 0", "rope 0 3 = 1", "rope 0 6 = 1", "count 2 = 2");
        run(13, one + "rope 0 1 long 4 at 2;", "drought 1 1 = 0", "rope 0 3 = 2", "rope 1 3 = 1");
        run(13, one + "rope 0 1 long 4 at 2;", "cut 0 = 0", "drought 1 1 = 0", "rope 1 3 = 2");
        run(13, one + "rope 0 1 long 4 at 2;rope 0 1 long 4 at 2;", "cut 0 = 0", "drought 1 1 = 0",
                "rope 0 3 = 2", "rope 1 3 = 2", "rope 2 3 = 1");
        // A house without ropes draws, too.
        run(13, "house 0;house 1;house 0;rope 1 2 long 4 at 2;rope 1 2 long 4 at 2;",
                "drought 1 1 = 0", "rope 0 3 = 2", "rope 1 3 = 2");
        run(13, one, "drought 1 0 = -3", "drought 1 61 = -3", "drought 1 -1 = -3", "count 2 = 0",
                "drought -7 60 = 0", "count 2 = 60");
        run(13, TWO, "times 100 live 99", "live 50 = 0", "drought 5 50 = -5", "drought 5 61 = -3",
                "count 2 = 9950", "drought 5 49 = 0", "drought 5 1 = -5", "count 2 = 9999");
        run(13, "house 9 level 1;house 9 level 1;rope 0 1 long 2 at 1;", "drought 3 60 = "
                + drinksOfDrought(3, 60));
    }

    /** Both houses have strength 9 and level 1, the rope is 2 long: told anew in a few lines. */
    private static int drinksOfDrought(int seed, int hours) {
        int x = seed;
        int depth = 1;
        int[] stock = {9, 9};
        boolean[] full = new boolean[2];
        int drunk = 0;
        for (int i = 0; i < hours; i++) {
            x = 1103515245 * x + 12345;
            int first = (x >>> 16) % 2;
            x = 1103515245 * x + 12345;
            int second = (x >>> 16) % 2;
            int lean = (full[0] ? 5 : 0) - (full[1] ? 5 : 0) + 9 * second - 9 * first;
            int way = Math.abs(lean) >= 8 ? 2 : 1;
            depth = Math.max(0, Math.min(2, depth + way * Integer.signum(lean)));
            int[] at = {depth, 2 - depth};
            for (int side = 0; side < 2; side++) {
                if (full[side] && at[side] == 0) {
                    full[side] = false;
                    drunk++;
                } else if (!full[side] && at[side] > 0 && stock[side] > 0) {
                    full[side] = true;
                    stock[side]--;
                }
            }
        }
        return drunk;
    }

    // ---- rest

    private static void theRest() {
        String four = "house 0;house 0;rope 0 1 long 4;rope 0 1 long 4 stones 1 0;"
                + "rope 0 1 long 4 at 4 stones 1 0;rope 0 1 long 4 stones 0 1;";
        run(16, four, "rests = 13", "cut 1 = 0", "rests = 15");
        run(16, TWO, "rests = 0");
        run(17, four, "calm = 2", "count 2 = 0", "rope 1 3 = 0", "pass = 0", "calm = 1",
                "pass = 0", "calm = 0");
        run(17, "house 0 stock 0;house 0 stock 0;rope 0 1 long 4 stones 1 0;", "calm = 4",
                "stones 0 false 9 = 11", "calm = 1", "cut 0 = 0", "calm = 0");
        run(17, TWO, TO_LAST_HOUR, "calm = 0");
        run(17, "house 0 stock 0;house 0 stock 0;rope 0 1 long 9;", TO_LAST_HOUR,
                "stones 0 false 1 = 3", "calm = 9", "count 2 = 9999");
        run(18, "house 0 level 1;house 0 level 9;rope 0 1 long 2 at 1 stones 3 1;"
                + "rope 1 0 long 2 at 2 stones 0 9;rope 0 1 long 9 stones 2 2;", "even = 11",
                "cut 1 = 0", "even = 2", "pass = 0", "rope 2 6 = 1", "even = 12", "cut 2 = 0",
                "even = 7", "cut 0 = 0", "even = 0");
        run(19, "house 2 stock 0;house 1 stock 0;house 9;rope 0 1 long 4 at 2 stones 2 0;",
                "lifts 0 0 = 0", "lifts 1 0 = 1", "stones 0 false 1 = 3", "lifts 0 0 = 1",
                "lifts 1 0 = 1", "stones 0 true 2 = 4", "lifts 1 0 = 0", "stones 0 true 1 = 3",
                "lifts 1 0 = 1", "rope 0 3 = 2", "count 2 = 0", "lifts 2 0 = -2", "lifts 3 0 = -2",
                "lifts -1 0 = -2", "lifts 0 1 = -2", "lifts 0 -1 = -2", "cut 0 = 0",
                "lifts 0 0 = -5", "lifts 2 0 = -2");
        // A bucket that is up can't be raised; one that rises by itself is raised.
        run(19, "house 9;house 9;rope 0 1 long 4;", "lifts 0 0 = 0", "lifts 1 0 = 1");
        run(19, "house 0;house 0;rope 0 1 long 4 at 2 stones 0 1;", "lifts 0 0 = 1",
                "lifts 1 0 = 0", TO_LAST_HOUR, "lifts 0 0 = 0");
    }

    // ---- rings

    private static String houses(int n) {
        return many("house 1;", n);
    }

    private static String ropes(int... ends) {
        StringBuilder sb = new StringBuilder();
        for (int i = 0; i + 1 < ends.length; i += 2) {
            sb.append("rope ").append(ends[i]).append(' ').append(ends[i + 1]).append(" long 2;");
        }
        return sb.toString();
    }

    private static void theRings() {
        String path = houses(3) + ropes(0, 1, 1, 2);
        String square = houses(4) + ropes(0, 1, 1, 2, 2, 3, 3, 0);
        String star = houses(4) + ropes(0, 1, 0, 2, 3, 0);
        String apart = houses(5) + ropes(0, 4, 3, 2, 3, 2);
        run(20, path, "together = 5", "cut 0 = 0", "together = 3", "cut 1 = 0", "together = 7");
        run(20, square, "together = 5");
        run(20, star, "together = 14", "cut 0 = 0", "cut 1 = 0", "together = 7");
        run(20, houses(10), "together = 1023");
        run(20, houses(10) + ropes(0, 1, 2, 3, 4, 5, 6, 7, 8, 9), "together = 341");
        run(21, path, "parted = 5", "cut 0 = 0", "parted = 3");
        run(21, square, "parted = 5");
        run(21, star, "parted = 1");
        run(21, apart, "parted = 7");
        run(21, houses(3) + ropes(0, 1, 1, 2, 2, 0), "parted = -1", "cut 1 = 0", "parted = 1");
        run(21, houses(6) + ropes(1, 2, 3, 4, 4, 5, 5, 3), "parted = -1", "cut 3 = 0",
                "parted = 43");
        run(21, houses(10) + ropes(9, 0, 8, 9, 7, 8, 6, 7, 5, 6), "parted = 351");
        run(22, path, "ring = -1");
        run(22, square, "ring = 4", "cut 2 = 0", "ring = -1");
        run(22, houses(4) + ropes(0, 1, 1, 2, 2, 3, 3, 0, 2, 0), "ring = 3", "cut 4 = 0",
                "ring = 4");
        run(22, apart, "ring = 2", "cut 2 = 0", "ring = -1");
        run(22, houses(10) + ropes(0, 1, 1, 2, 2, 3, 3, 4, 4, 5, 5, 6, 6, 7, 7, 8, 8, 9, 9, 0),
                "ring = 10", "together = 341", "parted = 341", "neighbours 4 = 1023",
                "severs 0 = 0", "cut 5 = 0", "severs 0 = 1", "ring = -1");
        run(23, apart, "neighbours 0 = 17", "neighbours 4 = 17", "neighbours 1 = 2",
                "neighbours 2 = 12", "cut 1 = 0", "neighbours 2 = 12", "cut 2 = 0",
                "neighbours 2 = 4", "neighbours 5 = -2", "neighbours -1 = -2");
        run(23, path, "neighbours 0 = 7", "cut 0 = 0", "neighbours 0 = 1", "neighbours 2 = 6");
        run(24, apart, "severs 0 = 1", "severs 1 = 0", "severs 2 = 0", "cut 2 = 0", "severs 1 = 1",
                "severs 2 = -5", "severs 3 = -2", "severs -1 = -2");
        run(24, square, "severs 3 = 0", "cut 0 = 0", "severs 3 = 1");
    }

    // ---- sought

    private static void theSought() {
        String slow = "house 9 level 1;house 1;rope 0 1 long 2;";
        run(25, slow, "soonest 0 1 = 2", "soonest 0 2 = 4", "soonest 0 3 = 6", "soonest 1 1 = -1",
                "soonest 2 1 = -2", "soonest -1 9 = -2", "soonest 0 0 = -3", "soonest 0 4 = -3",
                "count 2 = 0", "rope 0 3 = 0", "cut 0 = 0", "soonest 0 1 = -1");
        run(25, "house 9 level 1;house 0;rope 0 1 long 2;", "soonest 0 1 = -1");
        run(25, "house 9 level 1 stock 2;house 1;rope 0 1 long 2;", "soonest 0 2 = 4",
                "soonest 0 3 = -1");
        run(25, houses(5) + ropes(0, 1), "soonest 0 1 = -4", "soonest 5 1 = -2", "soonest 0 4 = -3",
                "cheapest 0 1 = -4", "cheapest 5 1 = -2", "cheapest 0 7 = -3", "loss 0 0 = -4");
        run(25, houses(4) + ropes(0, 1, 1, 2, 2, 3, 3, 0), "soonest 0 1 = -4", "cheapest 0 1 = -4",
                "loss 0 0 = -4", "cut 0 = 0", "soonest 0 1 = -1", "cheapest 0 1 = -1",
                "loss 0 1 = -5");
        // A house pulls one rope in an hour: the other bucket sinks the while.
        run(25, "fly 40;house 9 level 1;house 0 level 9;house 0 level 9;rope 0 1 long 2 at 1;"
                + "rope 0 2 long 2 at 1;", "pass = 0", "count 6 = 2", "soonest 0 1 = 1",
                "soonest 0 2 = 3");
        theStates();
        run(25, "house 9 level 1;house 1;rope 0 1 long 2 at 1;", "pass = 0", "soonest 0 1 = 1",
                "soonest 0 2 = 3", "cheapest 0 1 = 1");

        String two = "fly 40;house 9 level 1;house 1;house 0;rope 0 1 long 2;rope 0 2 long 4 at 4;";
        run(26, two, "soonest 0 1 = 2", "loss 0 0 = 2", "loss 0 1 = 0", "loss 3 0 = -2",
                "loss 0 2 = -2", "loss -1 0 = -2", "loss 0 -1 = -2", "loss 2 0 = -5",
                "loss 1 0 = -5", "rope 0 9 = 0", "cut 1 = 0", "loss 0 0 = -1", "loss 0 1 = -5",
                "loss 3 1 = -2");
        // Without the first rope there is more stock for the others: it is sooner by three hours.
        run(26, "fly 40;house 9 level 2 stock 1;house 5 level 2 stock 1;rope 1 0 long 7 at 1;"
                + "rope 1 0 long 3 at 2;rope 1 0 long 9 at 9;", "soonest 0 1 = 6", "loss 0 0 = -3",
                "cut 0 = 0", "soonest 0 1 = 3");
        // Too many states behind the last hour don't matter, behind the last but one they do.
        run(27, "fly 11;full 1;house 14 level 1 stock 50;house 16 level 1 stock 91;"
                + "house 9 level 1 stock 30;house 17 level 2 stock 38;"
                + "rope 3 0 long 5 at 0 stones 3 1;rope 0 2 long 7 at 3 stones 2 0;"
                + "rope 2 1 long 6 at 0 stones 1 2;", "cheapest 1 5 = 1", "cheapest 1 6 = -4");
        run(27, two, "cheapest 0 1 = -1", "cheapest 0 2 = 2", "cheapest 0 6 = 2",
                "cheapest 0 0 = -3", "cheapest 0 7 = -3", "cheapest 3 7 = -2", "cheapest -1 1 = -2",
                "cut 0 = 0", "cheapest 0 3 = -1", "cheapest 0 4 = 4", "cheapest 0 5 = 4",
                "count 2 = 0", "rope 1 3 = 4");
        // It comes by itself, but later.
        run(27, "fly 40;house 1 level 1;house 0 level 9;rope 0 1 long 3 at 2 stones 0 9;",
                "cheapest 0 1 = -1", "cheapest 0 2 = 0", "cheapest 0 6 = 0");
    }

    /**
     * Each of two ropes can hang in 10 ways, the third one with its water in 30, whatever the others
     * do: 3,000 states are not too many. One more is, if the land begins with a bucket that fills in
     * any case, as it can't be empty there again.
     */
    private static void theStates() {
        String pair = "house 1 stock 0;house 1 stock 0;house 6 level 1 stock 2;house 1 stock 0;"
                + "rope 0 1 long 9;rope 0 1 long 9;";
        run(25, pair + "rope 2 3 long 9;", "soonest 0 1 = -1", "loss 0 2 = -5", "soonest 2 1 = 2");
        run(25, pair + "rope 2 3 long 9 at 1;", "soonest 0 1 = -4", "loss 0 2 = -4",
                "soonest 2 1 = 2", "pass = 0", "soonest 0 1 = -1");
    }

    private static void theAlone() {
        run(28, "fly 40;house 9 level 1;house 0;rope 0 1 long 2 at 1;", "alone 0 1 0 = 0",
                "alone 0 1 10 = -1", "alone 0 2 0 = 1", "alone 0 2 10 = -1", "alone 0 2 11 = 0",
                "alone 0 3 10 = -1", "alone 0 3 11 = 0", "alone 0 3 12 = -1", "alone 0 2 12 = -7",
                "alone 0 2 16 = -7", "alone 0 2 17 = -2", "alone 0 2 9 = -2", "alone 0 2 1 = -2",
                "alone 0 2 -1 = -2", "alone 2 2 0 = -2", "alone -1 0 0 = -2", "alone 0 0 0 = -3",
                "alone 0 8 0 = -3", "alone 0 0 10 = -3", "alone 0 0 17 = -2", "alone 1 7 0 = 0",
                "alone 1 7 16 = -1", "count 2 = 0");
        String four = "house 9 level 1;house 0;" + ropes(0, 1, 0, 1, 1, 0, 0, 1);
        run(28, four, "alone 0 1 0 = -4", "alone 0 0 0 = -3", "alone 0 1 99 = -2", "cut 1 = 0",
                "alone 0 1 0 = 0");
        // Three buckets are up in turn, the lower numbers ahead.
        run(28, "fly 40;house 9 level 1;house 0;rope 1 0 long 2 at 1;rope 0 1 long 2 at 1;"
                + "rope 0 1 long 3 at 3;", "alone 0 3 0 = 1", "alone 0 3 10 = -1",
                "alone 0 3 11 = 0", "alone 0 3 12 = -1", "alone 0 7 0 = 3", "alone 0 7 10 = -1",
                "alone 0 7 11 = 0", "alone 0 7 12 = 1", "alone 0 7 13 = 1", "alone 0 7 14 = 2",
                "alone 0 7 16 = 2");

        run(29, "house 0 thirst 7;house 0 thirst 1;house 0 thirst 3;house 0 thirst 8;"
                + "house 0 thirst 16;rope 0 3 long 2;rope 4 0 long 2;rope 2 1 long 2;",
                "mate 0 = 1", "mate 1 = 3", "mate 2 = 3", "mate 3 = 1", "cut 1 = 0", "mate 0 = 4",
                "cut 0 = 0", "mate 0 = 3", "mate 5 = -2", "mate -1 = -2");
        run(29, "house 0;", "mate 0 = -1");
        run(29, TWO + "rope 1 0 long 2;", "mate 0 = -1", "mate 1 = -1", "cut 0 = 0", "mate 1 = 0");
        run(29, "house 0 thirst 4095;house 0 thirst 4095;", "mate 0 = 1", "mate 1 = 0");
    }

    private static void theDwellings() {
        run(30, "house 0 thirst 1;house 0 thirst 1;house 0 thirst 2;rope 0 1 long 2;",
                "dwellings 0 = 0", "dwellings 1 = 2", "dwellings 10 = 0", "dwellings 11 = 2",
                "dwellings 12 = 1", "dwellings 13 = -2", "dwellings 2 = -2", "dwellings 9 = -2",
                "dwellings -1 = -2", "house 1 3 = 1", "cut 0 = 0", "dwellings 1 = 0",
                "dwellings 11 = 1");
        // Nothing better: all stay.
        run(30, "house 0 thirst 3;house 0 thirst 3;house 0 thirst 3;" + ropes(0, 1, 1, 2, 1, 2),
                "dwellings 0 = 6", "dwellings 1 = 0", "dwellings 12 = 2");
        // Two ropes between the same houses count twice.
        run(30, "house 0 thirst 15;house 0 thirst 15;house 0 thirst 8;" + ropes(0, 1, 0, 1, 1, 2),
                "dwellings 0 = 3", "dwellings 1 = 2", "dwellings 10 = 0", "dwellings 11 = 2",
                "dwellings 12 = 1");
        run(30, houses(7), "dwellings 16 = 6", "dwellings 17 = -2");
        run(30, houses(8), "dwellings 0 = -4", "dwellings 17 = -4", "dwellings 18 = -2");
        run(30, "", "dwellings 1 = 0");
        run(31, "house 0 thirst 4095;house 0 thirst 2049;house 0 thirst 1;" + ropes(0, 1, 1, 2, 2, 1),
                "clash 0 = 2", "clash 1 = 1", "clash 2 = 1", "clash -1 = 4", "clash 3 = -2",
                "clash -2 = -2", "cut 0 = 0", "clash -1 = 2");
    }

    private static void theSeen() {
        String like = "house 5;house 5;rope 0 1 long 4 at 2;";
        run(32, like, "row 0 0: 2", "seen 0 = 2", "row 0 0: 1", "seen 0 = 1", "row 0 0: 3",
                "seen 0 = 1", "row 0 0: 4", "seen 0 = 0", "row 0 3: 4294967297", "seen 0 = 0",
                "row 0 0: -1", "seen 0 = 0", "count 2 = 0", "rope 0 3 = 2");
        run(32, "fly 5;" + like, "row 0 0: 0", "seen 0 = 1", "row 0 0: 1", "seen 0 = 0");
        run(32, "house 5;house 3;house 1;rope 0 1 long 4 at 2;rope 0 2 long 4 at 2;",
                "row 0 0: 1 2", "seen 0 = 2", "pulled 0 = 1", "row 0 0: 2 1", "seen 0 = 2",
                "row 0 0: 3 3", "seen 0 = 1", "pulled 0 = 6", "row 0 0: 1 1", "seen 0 = 0",
                "pulled 0 = 0", "row 0 0: 2 2", "seen 0 = 1", "pulled 0 = 0", "cut 1 = 0",
                "row 0 0: 1 2", "seen 0 = 2", "row 0 0: 1 1", "seen 0 = 0", "pulled 0 = 0");
        run(32, houses(6), "row 1 3:", "seen 1 = 1", "pulled 1 = 0", "row 1 0: 0", "seen 1 = -7");
        run(32, houses(7), "seen 4 = -2", "seen -1 = -2", "seen 2 = -6", "row 2 0: 0", "seen 2 = -7",
                "row 2 0:", "seen 2 = -4", "pulled 4 = -2", "pulled -1 = -2", "pulled 3 = -6",
                "pulled 2 = -4", "row 2 0: 0", "pulled 2 = -7");
        run(32, "", "row 0 0:", "seen 0 = 1", "pulled 0 = 0");
        String six = many("house 0;", 6) + ropes(0, 1, 0, 2, 0, 3, 0, 4, 0, 5, 1, 2, 1, 3, 1, 4, 1,
                5, 2, 3, 2, 4, 2, 5, 3, 4, 3, 5, 4, 5, 0, 1);
        run(32, six, "row 0 0:" + many(" 0", 16), "seen 0 = 63504", "pulled 0 = 0");
        run(32, six, TO_LAST_HOUR, "row 0 0:" + many(" 0", 16), "seen 0 = 63504");
        run(33, like, "row 0 0: 2", "pulled 0 = 0", "row 0 0: 1", "pulled 0 = 1", "row 0 0: 3",
                "pulled 0 = 2", "row 0 0: 4", "pulled 0 = 0");
    }

    // ---- rows of numbers, images

    private static void theRows() {
        run(34, "", "numbers 4 0 1 = -2", "numbers -1 0 1 = -2", "numbers 0 4 1 = -2",
                "numbers 0 -1 61 = -2", "numbers 0 0 61 = -3", "numbers 0 0 -1 = -3",
                "write 0 0 1 = -6", "numbers 0 0 60 = 0", "write 0 59 5 = 5", "write 0 60 5 = -7",
                "numbers 0 0 61 = -3", "write 0 59 6 = 6", "numbers 0 3 0 = 0", "write 0 0 1 = -7",
                "numbers 3 3 1 = 0", "write 3 0 9 = 9", "write 2 0 9 = -6");
        // All are 0 in a new row: twenty times house 0 and rope 0.
        run(34, TWO + "rope 0 1 long 2;", "row 0 0: 1", "judge 0 1 = 1", "numbers 0 0 1 = 0",
                "judge 0 1 = 0", "judge 0 4 = 1");
        run(35, "", "write 4 0 0 = -2", "write -1 0 0 = -2", "write 0 0 0 = -6", "numbers 0 0 2 = 0",
                "write 0 2 0 = -7", "write 0 -1 0 = -7", "write 0 0 127 = 127",
                "write 0 0 128 = -128", "write 0 1 -129 = 127", "write 0 1 255 = -1",
                "write 0 1 4294967296 = 0", "numbers 1 1 1 = 0", "write 1 0 32767 = 32767",
                "write 1 0 32768 = -32768", "write 1 0 65535 = -1", "numbers 2 2 1 = 0",
                "write 2 0 2147483647 = 2147483647", "write 2 0 2147483648 = -2147483648",
                "write 2 0 -2147483649 = 2147483647", "numbers 3 3 1 = 0",
                "write 3 0 9223372036854775807 = 9223372036854775807",
                "write 3 0 -9223372036854775808 = -9223372036854775808");
        // What is kept is what was answered: 256 is 0 in eight bits.
        run(35, TWO + "rope 0 1 long 2;", "numbers 0 0 1 = 0", "write 0 0 256 = 0", "judge 0 1 = 0");
        run(36, TWO + "rope 0 1 long 9 at 7;rope 1 0 long 9 at 2;", "copy 0 = -6", "copy 4 = -2",
                "copy -1 = -2", "row 0 0: 5", "copy 0 = -7", "numbers 0 0 2 = 0", "copy 0 = 2",
                "seen 0 = 3", "row 0 0: 5", "copy 0 = -7", "judge 0 1 = 1", "row 1 3: 5 5 99",
                "copy 1 = 2", "judge 1 0 = 0", "cut 0 = 0", "copy 1 = 2");
        // The depths stand there: 0 and 1 are pulls of these ropes, what comes behind stays.
        run(36, TWO + "rope 0 1 long 9;rope 0 1 long 9 at 1;", "row 0 0: 7 7 20", "copy 0 = 2",
                "judge 0 0 = 1", "judge 0 1 = 2", "row 0 0: 7 7", "copy 0 = 2", "seen 0 = 4");
        run(36, TWO, "row 0 0:", "copy 0 = 0");
    }

    private static void theImages() {
        String both = "fly 40;full 2;house 3 level 1 thirst 4095;house 2 level 1 thirst 4095;"
                + "rope 0 1 long 4 at 2;rope 1 0 long 4;";
        run(37, both, "image 2 = -2", "image -1 = -2", "restore 2 = -2", "restore -1 = -2",
                "restore 0 = -5", "image 1 = 0", "restore 0 = -5", "restore 1 = 0", "image 0 = 0",
                "restore 0 = 0");
        run(38, both, "live 2 = 1", "stones 0 true 4 = 8", "cut 1 = 0", "image 0 = 0",
                "read house 1; = 1", "count 0 = 1", "image 1 = 0", "restore 0 = 0", "count 0 = 2",
                "count 1 = 2", "count 2 = 2", "count 3 = 2", "count 4 = 40", "count 8 = 6",
                "house 0 4 = 1", "house 0 5 = 1", "house 0 2 = 7", "house 1 2 = 8", "house 1 3 = 4095",
                "rope 0 3 = 0", "rope 0 6 = 1", "rope 0 8 = 8", "rope 1 9 = 1", "restore 1 = 0",
                "count 0 = 1", "count 1 = 0", "count 2 = 0", "restore 0 = 0", "pass = 0",
                "cut 0 = 0", "restore 0 = 0", "rope 0 9 = 0", "count 2 = 2", "image 0 = 0",
                "pass = 0", "restore 0 = 0", "count 2 = 2");
        run(39, both, "count 0 = 2", "count 1 = 2", "count 2 = 0", "count 3 = 2", "count 4 = 40",
                "count 5 = 18", "count 6 = 0", "count 7 = 0", "count 8 = 6", "count 9 = -1",
                "count -1 = -1", "pass = 0", "count 2 = 1", "count 5 = 15", "count 6 = 3",
                "cut 1 = 0", "count 1 = 2", "count 6 = 2", "count 5 = 15", "feed 1 1 1 1 1 = 20",
                "count 7 = 20");
    }
}
