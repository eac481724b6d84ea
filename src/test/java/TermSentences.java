/** What the document says ahead of its promises, sentence by sentence, each with rows that fail if it does not hold. */
final class TermSentences {
    private TermSentences() {
    }

    static void all() {
        whatItIs();
        overview();
        refusals();
        directionsAndTicks();
        passes();
        dishes();
        theSun();
        burnt();
        stormAndKey();
        ways();
        whatWaysMayNot();
        noWay();
        seen();
        theWay();
        theFirstWay();
        theOffer();
        handedOver();
        handedOverWithoutWays();
        taken();
    }

    private static void says(String part, String words, String rows) {
        SentenceTest.says(part, words, rows);
    }

    private static void whatItIs() {
        says("What it is", "Dishes that follow.", """
            stand 0 0 5 0
            track 7 1  0 5  1 5  2 4
            way 0 7 * = 3 3 1 3 26 4
            """);
        String cycle = "track 1 0 0 5; stand 0 0 5 0; take 0 1 = 1; drop 1 = 0;";
        says("What it is", "An object is used for at most 512 calls after it has been made; what later calls answer is free.",
            cycle.repeat(102) + "looked 0 5 = 102; count 3 = 102");
    }

    /** Each half sentence is told again, and exactly, further below. */
    private static void overview() {
        says("Terms", "What flies over goes from direction to direction, tick by tick; a dish turns so far each tick,", """
            stand 0 0 5 0
            track 1 1  1 5  3 5
            way 0 1 0 = 1
            """);
        says("Terms", "its cables let it wind only so far either way, too high up it cannot follow,", """
            stand 0 24 5 0
            stand 1 -24 5 0
            track 1 1  1 5
            track 2 1  23 5
            way 0 1 0 = 0
            way 1 2 0 = 0
            track 3 0  0 6
            way 2 3 0 = 0
            """);
        says("Terms", "into the sun it must never look, in a storm it has to look straight up.", """
            stand 0 0 5 0
            track 1 1  0 5
            way 0 1 0 = 1
            sun 0 40 5 0
            way 0 1 0 = 0
            sun 0 40 5 -1
            storm 1 1
            way 0 1 * = 0 1 NONE NONE 24 6
            """);
        says("Terms", "For each dish and each pass the way is told by which most of it is seen, with fewest steps; which dish is"
            + " best for it, when one should hand over to another one; passes are taken, one behind the other, by a dish or by"
            + " all; where dishes looked how often; images.", """
            image 0
            track 1 1  0 5
            track 2 2  0 5
            way 0 1 0 = 1
            offer 1 0 = 0
            share 1 0 1 1 = 1
            take 0 1 = 1
            round = 1
            told 2 3 = 0
            looked 0 5 = 2
            restore 0 = 1
            count 0 = 0
            """);
    }

    private static void refusals() {
        says("Terms", "Calls that are refused answer the first that fits, in the order in which they are told with the call:"
            + " UNKNOWN -1 (no such DISH, PASS), OUTSIDE -2 (another number is not as told), STATE -3, NO -5, FULL -4 (as told"
            + " with the call);", """
            way 4 1 6 = UNKNOWN
            pass 1 0 = 1
            way 4 1 6 = UNKNOWN
            way 0 1 6 = OUTSIDE
            way 0 1 5 = STATE
            pass 1 61 = OUTSIDE
            pass 1 60 = NO
            pass 11..17 0
            pass 1 61 = OUTSIDE
            pass 1 60 = NO
            pass 2 60 = FULL
            """);
        says("Terms", "NONE -6 is told only where no refusal fits.", """
            pass 1 0
            stand 0 0 6 79
            way 0 1 0 = STATE
            where 0 1 79 0 = STATE
            point 1 0 5 = 1
            way 0 1 0 = NONE
            way 0 1 6 = OUTSIDE
            way 0 2 0 = UNKNOWN
            way 4 1 0 = UNKNOWN
            where 0 1 79 0 = NONE
            where 0 1 79 3 = OUTSIDE
            where 0 1 80 0 = OUTSIDE
            stand 1..3 0 6 79
            offer 1 0 = NONE
            offer 1 2 = OUTSIDE
            stand 1 0 6 0
            take 1 1 = 0
            offer 1 0 = STATE
            way 0 1 0 = STATE
            where 0 1 79 0 = STATE
            take 0 1 = STATE
            """);
        says("Terms", "What is refused changes nothing.", """
            pass 1 61 = OUTSIDE
            count 0 = 0
            key 7 = OUTSIDE
            key 5 = 5
            """);
        says("Terms", "Whatever is told is told as things are then.", """
            track 1 2  1 5
            track 2 9  0 5
            way 0 1 0 = 1
            where 0 1 2 2 = 1
            offer 1 1 = 1
            share 1 0 1 1 = 1
            key 4 = 5
            way 0 1 0 = 0
            where 0 1 2 2 = 0
            offer 1 1 = 0
            share 1 0 1 1 = 0
            key 6 = 4
            way 0 1 0 = 1
            told 2 2 = 1
            order 1 = 2
            drop 1 = 1
            told 2 2 = 0
            order 1 = NONE
            dish 0 0 = 24
            set 0 0 30 = 24
            dish 0 0 = 30
            way 0 2 4 = 30
            """);
        says("Terms", "Whatever is told is told as things are then.", """
            pass 1 1
            image 0
            point 1 0 5
            way 0 1 * = 1 1 1 1 24 5
            point 1 1 5
            way 0 1 * = 2 2 1 2 25 5
            image 1
            stand 0 0 6 1
            way 0 1 * = 1 2 2 2 25 5
            stand 0 0 6 0
            point 1 3 5
            way 0 1 * = 2 2 1 2 25 5
            set 0 1 2
            way 0 1 * = 3 4 1 3 27 5
            set 0 0 12
            way 0 1 * = 3 4 1 3 15 5
            sun 0 40 5 0
            way 0 1 * = 2 4 2 3 15 5
            sun 0 40 5 -1
            way 0 1 * = 3 4 1 3 15 5
            storm 2 2
            way 0 1 * = 2 6 1 3 15 5
            storm 2 1
            way 0 1 * = 3 4 1 3 15 5
            restore 1
            way 0 1 * = 2 2 1 2 25 5
            drop 1
            track 1 1  0 6  0 4
            way 0 1 * = 1 2 2 2 24 4
            restore 0
            way 0 1 0 = STATE
            point 1 0 5
            track 2 3  0 5
            offer 2 * = 0 1
            way 0 2 * = 1 1 3 3 24 5
            take 0 1 = 1
            way 0 2 * = 1 0 3 3 24 5
            drop 1
            stand 0 0 6 0
            track 1 1  0 5
            way 0 2 * = 1 1 3 3 24 5
            round = 2
            stand 0 0 6 0
            drop 2
            track 2 3  1 5
            way 0 2 * = 1 2 3 3 25 5
            key 6
            track 3 0  0 6
            where 0 3 0 2 = 1
            key 5
            where 0 3 0 2 = 0
            """);
    }

    private static void directionsAndTicks() {
        says("Terms 1", "A DIRECTION: a SIDE, 0 to 23, around,", """
            looked 0 0 = 0
            looked 23 0 = 0
            looked -1 0 = OUTSIDE
            looked 24 0 = OUTSIDE
            stand 0 0 5 0
            track 1 1  23 5
            way 0 1 * = 1 1 1 1 23 5
            stand 1 23 5 0
            track 2 1  0 5
            way 1 2 * = 1 1 1 1 48 5
            """);
        says("Terms 1", "and a HEIGHT, 0 to 6 (6 is straight up).", """
            looked 0 0 = 0
            looked 0 6 = 0
            looked 0 -1 = OUTSIDE
            looked 0 7 = OUTSIDE
            track 1 7  0 0  0 0
            way 0 1 0 = 2
            storm 8 8
            way 0 1 5 = 6
            storm 8 7
            key 6
            track 2 1  0 0  1 5
            way 0 2 * = 1 2 2 2 25 5
            stand 0 0 0 0
            track 3 5  22 6  1 1
            way 0 3 * = 1 2 6 6 25 1
            where 0 3 5 * = 24 0 0
            """);
        says("Terms 1", "TICKS are 0 to 79.", """
            burnt 0 0 0 = 0
            burnt 0 0 79 = 0
            burnt 0 0 -1 = OUTSIDE
            burnt 0 0 80 = OUTSIDE
            stand 0 0 6 79 = 1
            stand 0 0 6 80 = OUTSIDE
            stand 0 0 6 0 = 1
            stand 0 0 6 -1 = OUTSIDE
            storm 0 79 = 1
            storm 0 80 = OUTSIDE
            storm -1 79 = OUTSIDE
            track 1 0  0 5
            where 0 1 79 0 = NONE
            where 0 1 80 0 = OUTSIDE
            where 0 1 0 0 = 24
            where 0 1 -1 0 = OUTSIDE
            """);
    }

    private static void passes() {
        says("Terms 1", "A PASS has a NAME, 0 to 99, a BEGIN, a TICK 0 to 60,", """
            pass -1 0 = OUTSIDE
            pass 100 0 = OUTSIDE
            pass 0 -1 = OUTSIDE
            pass 0 61 = OUTSIDE
            pass 0 60 = 1
            pass 99 0 = 2
            told 0 0 = 60
            told 99 0 = 0
            """);
        says("Terms 1", "and up to 16 POINTS, DIRECTIONS:", """
            pass 1 0
            point 1 0 5 x15
            point 1 23 6 = 16
            point 1 0 5 = FULL
            told 1 1 = 16
            """);
        says("Terms 1", "its k-th POINT, from 0 on, is that at TICK BEGIN and k, added (a TICK 0 to 75).", """
            key 6
            track 1 0  0 6  1 6
            where 0 1 0 2 = 1
            where 0 1 1 2 = 1
            where 0 1 2 2 = NONE
            pass 2 60
            point 2 12 0 x15
            point 2 0 5
            stand 0 0 6 74
            way 0 2 * = 1 1 75 75 24 5
            where 0 2 74 2 = 0
            where 0 2 75 2 = 1
            where 0 2 76 2 = NONE
            """);
        says("Terms 1", "There are up to 8 PASSES, told in the order in which they came.",
            Rows.each(0, 7, n -> "pass " + (70 - 10 * n) + " " + (60 - n) + " = " + (n + 1))
            + "pass 1 0 = FULL; count 0 = 8;"
            + Rows.each(0, 7, n -> "order " + n + " = " + (70 - 10 * n))
            + "drop 40 = 7; order 3 = 30; pass 40 0 = 8; order 7 = 40; told 40 2 = 7");
    }

    private static void dishes() {
        says("Terms 1", "DISHES are 0 to 3.", """
            dish 0..3 1 = 6
            dish -1 1 = UNKNOWN
            dish 4 1 = UNKNOWN
            """);
        says("Terms 1", "A DISH stands: a WIND, from 0 less its LIMIT to LIMIT, a HEIGHT, and FREE, the TICK from which on it"
            + " stands so (at first WIND 0, HEIGHT 6, FREE 0);", """
            dish 0 * = 24 6 0
            dish 1 * = 24 6 0
            dish 2 * = 24 6 0
            dish 3 * = 24 6 0
            stand 0 -25 6 0 = OUTSIDE
            stand 0 25 6 0 = OUTSIDE
            stand 0 24 6 0 = 1
            dish 0 0 = 48
            stand 0 -24 3 7 = 1
            dish 0 * = 0 3 7
            track 1 5  0 0  0 0  0 0  0 0
            where 0 1 6 1 = NONE
            where 0 1 7 * = 0 3
            """);
        says("Terms 1", "it has a LIMIT, 12 to 36 (24 at first), and a SPEED, 1 to 3 (1 at first).", """
            dish 0..3 3 = 24
            dish 0..3 4 = 1
            set 0 0 11 = OUTSIDE
            set 0 0 37 = OUTSIDE
            set 0 1 0 = OUTSIDE
            set 0 1 4 = OUTSIDE
            set 0 0 12 = 24
            set 0 0 36 = 12
            set 0 1 3 = 1
            set 0 1 1 = 3
            """);
        says("Terms 1", "Its SIDE is what WIND leaves by 24, 0 to 23 (of WIND -1 it is 23).",
            "set 0 0 36; stand 0 -1 6 0; dish 0 5 = 23;"
            + Rows.each(0, 72, n -> "stand 0 " + (n - 36) + " 6 0; dish 0 5 = " + (n + 12) % 24));
    }

    private static void theSun() {
        says("Terms 1", "THE SUN at TICK t: its SIDE is what FROM and t by EVERY (cut), added, leave by 24;", """
            sun 23 10 3 0
            burnt 23 3 0..9 = 1
            burnt 0 3 0..9 = 0
            burnt 23 3 10..19 = 0
            burnt 0 3 10..19 = 1
            burnt 5 3 79 = 0
            burnt 6 3 79 = 1
            sun 23 1 3 0
            burnt 22 3 24 = 0
            burnt 23 3 24 = 1
            burnt 6 3 79 = 1
            sun 0 40 3 0
            burnt 0 3 39 = 1
            burnt 1 3 39 = 0
            burnt 0 3 40 = 0
            burnt 1 3 40..79 = 1
            """);
        says("Terms 1", "its HEIGHT is always the same;", "sun 0 1 2 0;"
            + Rows.each(0, 79, t -> "burnt " + t % 24 + " 2 " + t + " = 1")
            + Rows.each(0, 79, t -> "burnt " + t % 24 + " 1 " + t + " = 0")
            + Rows.each(0, 79, t -> "burnt " + t % 24 + " 3 " + t + " = 0") + "count 7 = 2");
        says("Terms 1", "CONE is -1 to 3.", """
            sun 0 1 0 -2 = OUTSIDE
            sun 0 1 0 4 = OUTSIDE
            sun 0 1 0 3 = 1
            count 8 = 4
            sun 0 1 0 -1 = 1
            count 8 = 0
            """);
        says("Terms 1", "At first FROM is 0, EVERY 10, HEIGHT 3, CONE -1.", """
            count 6 = 0
            count 7 = 3
            count 8 = 0
            burnt 0..23 3 0 = 0
            """);
    }

    private static void burnt() {
        String rows = "";
        for (int cone = 0; cone <= 3; cone++) {
            int in = cone;
            int out = cone + 1;
            rows += "sun 0 40 3 " + cone + ";";
            rows += "burnt " + in + " 3 0 = 1; burnt " + (24 - in) % 24 + " 3 0 = 1;";
            rows += "burnt " + out + " 3 0 = 0; burnt " + (24 - out) + " 3 0 = 0;";
            rows += "burnt 0 " + (3 + in) + " 0 = 1; burnt 0 " + (3 - in) + " 0 = 1;";
            rows += "burnt " + in + " " + (3 + in) + " 0 = 1; burnt " + (24 - in) % 24 + " " + (3 - in) + " 0 = 1;";
            rows += "burnt " + out + " " + (3 + in) + " 0 = 0;";
            if (out <= 3) {
                rows += "burnt 0 " + (3 + out) + " 0 = 0; burnt 0 " + (3 - out) + " 0 = 0;";
                rows += "burnt " + in + " " + (3 + out) + " 0 = 0;";
            }
            rows += "burnt 12 3 0 = 0;";
        }
        says("Terms 1", "A DIRECTION is BURNT at a TICK, if its SIDE is no more than CONE from that of THE SUN, around either"
            + " way, and its HEIGHT is no more than CONE from that of THE SUN.", rows + """
            sun 22 40 6 3
            burnt 1 3 0 = 1
            burnt 2 3 0 = 0
            burnt 19 3 0 = 1
            burnt 18 3 0 = 0
            burnt 1 2 0 = 0
            sun 1 40 0 2
            burnt 23 2 0 = 1
            burnt 22 2 0 = 0
            burnt 3 2 0 = 1
            burnt 4 2 0 = 0
            burnt 3 3 0 = 0
            burnt 1 5..6 0 = 0
            sun 1 40 6 2
            burnt 1 0..3 0 = 0
            burnt 1 4..6 0 = 1
            """);
        says("Terms 1", "(By CONE -1 none is.)", """
            burnt 0..23 0..6 0 = 0
            sun 5 40 4 -1
            burnt 0..23 0..6 0 = 0
            """);
    }

    private static void stormAndKey() {
        says("Terms 1", "A STORM is from one TICK to another one, both with it, or there is none (at first).", """
            count 9 = NONE
            count 10 = NONE
            stand 0 0 5 0
            track 1 4  0 5  0 5  0 5  0 5  0 5
            way 0 1 * = 5 0 4 8 24 5
            storm 5 7
            way 0 1 * = 2 2 4 8 24 5
            where 0 1 4 1 = 5
            where 0 1 5..7 1 = 6
            where 0 1 8 1 = 5
            """);
        says("Terms 1", "KEY is 0 to 6 (5 at first).", """
            count 5 = 5
            key -1 = OUTSIDE
            key 7 = OUTSIDE
            key 0 = 5
            key 6 = 0
            key 6 = 6
            """);
    }

    private static void ways() {
        says("Terms 2", "A WAY of a DISH for a PASS that has POINTS: for each TICK from FREE to that of the last POINT a WIND"
            + " and a HEIGHT;", """
            pass 1 4
            way 0 1 0 = STATE
            stand 0 3 2 2
            point 1 3 2
            point 1 3 2
            where 0 1 0..1 0 = NONE
            where 0 1 0..1 1 = NONE
            where 0 1 2..5 0 = 27
            where 0 1 2..5 1 = 2
            where 0 1 6..79 0 = NONE
            where 0 1 6..79 1 = NONE
            """);
        says("Terms 2", "at FREE those by which it stands;", """
            stand 0 -7 1 3
            track 1 3  12 5  12 5
            where 0 1 3 0 = 17
            where 0 1 3 1 = 1
            storm 3 3
            sun 17 40 1 0
            where 0 1 3 0 = 17
            where 0 1 3 1 = 1
            """);
        String rows = "stand 0 0 3 0;";
        for (int speed = 1; speed <= 3; speed++) {
            rows += "set 0 1 " + speed + ";";
            rows += "track 1 1 " + speed + " 3; way 0 1 * = 1 " + speed + " 1 1 " + (24 + speed) + " 3; drop 1;";
            rows += "track 1 1 " + (speed + 1) + " 3; way 0 1 0 = 0; drop 1;";
            rows += "track 1 1 " + (24 - speed) + " 3; way 0 1 * = 1 " + speed + " 1 1 " + (24 - speed) + " 3; drop 1;";
            rows += "track 1 1 " + (23 - speed) + " 3; way 0 1 0 = 0; drop 1;";
            rows += "track 1 1 " + speed + " 4; way 0 1 1 = " + (speed + 1) + "; drop 1;";
            rows += "track 1 1 0 4; way 0 1 * = 1 1 1 1 24 4; drop 1;";
            rows += "track 1 1 0 5; way 0 1 0 = 0; drop 1;";
            rows += "track 1 1 0 2; way 0 1 * = 1 1 1 1 24 2; drop 1;";
            rows += "track 1 1 0 1; way 0 1 0 = 0; drop 1;";
        }
        says("Terms 2", "from TICK to TICK the WIND is changed by SPEED at the most, the HEIGHT by 1 at the most, either way;",
            rows + """
            set 0 1 1
            stand 0 0 5 0
            track 1 1  1 5  12 0  12 0  12 0  22 5
            way 0 1 * = 2 4 1 5 22 5
            where 0 1 1 0 = 25
            where 0 1 2 0 = 24
            where 0 1 3 0 = 23
            where 0 1 4..5 0 = 22
            track 2 1  22 5  2 5
            way 0 2 * = 1 2 2 2 26 5
            where 0 2 1 0 = 25
            stand 0 0 6 0
            track 3 5  0 3
            where 0 3 1 1 = 5
            where 0 3 2 1 = 4
            where 0 3 3..5 1 = 3
            stand 0 0 3 0
            track 4 1  23 5  1 5
            way 0 4 * = 1 3 2 2 25 5
            where 0 4 1 * = 24 4 0
            track 5 1  23 1  1 1
            way 0 5 * = 1 3 2 2 25 1
            where 0 5 1 * = 24 2 0
            """);
    }

    private static void whatWaysMayNot() {
        says("Terms 2", "WIND is never beyond LIMIT either way;", """
            set 0 0 12
            track 1 1  13 5
            track 2 1  11 5
            track 3 1  12 5
            stand 0 12 5 0
            way 0 1 0 = 0
            way 0 2 * = 1 1 1 1 23 5
            stand 0 11 5 0
            way 0 3 * = 1 1 1 1 24 5
            stand 0 -12 5 0
            way 0 2 0 = 0
            way 0 1 * = 1 1 1 1 1 5
            stand 0 -11 5 0
            way 0 3 * = 1 1 1 1 0 5
            set 0 0 13 = 12
            stand 0 12 5 0
            way 0 1 * = 1 1 1 1 26 5
            stand 0 -12 5 0
            way 0 2 * = 1 1 1 1 0 5
            set 0 0 36 = 13
            stand 0 36 5 0
            way 0 1 0 = 0
            stand 0 -36 5 0
            way 0 2 0 = 0
            """);
        says("Terms 2", "at each TICK behind FREE its DIRECTION is not BURNT,", """
            stand 0 0 5 0
            sun 0 40 5 0
            track 1 1  12 0
            way 0 1 * = 0 1 NONE NONE 23 5
            where 0 1 0 * = 24 5 0
            sun 1 1 5 0
            track 2 1  12 0  12 0  12 0
            way 0 2 * = 0 0 NONE NONE 24 5
            stand 0 2 5 0
            way 0 2 * = 0 1 NONE NONE 25 5
            where 0 2 1 0 = 25
            stand 0 4 5 0
            way 0 2 * = 0 1 NONE NONE 28 4
            where 0 2 1..3 0 = 28
            where 0 2 1..3 1 = 4
            set 0 0 15
            stand 0 3 5 0
            sun 3 40 5 0
            way 0 2 * = 0 1 NONE NONE 17 5
            sun 9 40 5 0
            way 0 2 * = 0 0 NONE NONE 18 5
            stand 0 -3 5 0
            sun 21 40 5 0
            way 0 2 * = 0 1 NONE NONE 11 5
            """);
        says("Terms 2", "and, if it is a TICK of the STORM, its HEIGHT is 6.", """
            stand 0 0 4 0
            track 1 2  0 4  0 4  0 4
            storm 2 3
            way 0 1 * = 0 2 NONE NONE 24 6
            where 0 1 1 1 = 5
            where 0 1 2..4 1 = 6
            storm 4 4
            way 0 1 0 = 1
            where 0 1 3 1 = 5
            where 0 1 4 1 = 6
            storm 1 1
            way 0 1 0 = NONE
            storm 0 0
            way 0 1 * = 3 0 2 4 24 4
            """);
    }

    private static void noWay() {
        says("Terms 2", "(There may be none.", """
            stand 0 0 3 0
            track 1 1  0 3
            way 0 1 0 = 1
            sun 0 40 3 1
            way 0 1 * = NONE NONE NONE NONE NONE NONE
            sun 0 40 3 0
            way 0 1 0 = 0
            sun 0 40 3 -1
            storm 1 1
            way 0 1 * = NONE NONE NONE NONE NONE NONE
            storm 2 2
            way 0 1 0 = 1
            stand 1 0 6 0
            storm 1 1
            sun 0 40 6 1
            way 1 1 * = NONE NONE NONE NONE NONE NONE
            sun 0 40 6 0
            way 1 1 * = 0 1 NONE NONE 23 6
            """);
        says("Terms 2", "There is none, if FREE is behind the TICK of the last POINT.)", """
            track 1 4  0 5  0 5
            stand 0 0 5 5
            way 0 1 * = 1 0 5 5 24 5
            stand 0 0 5 6
            way 0 1 * = NONE NONE NONE NONE NONE NONE
            stand 0 0 5 79
            way 0 1 0 = NONE
            pass 2 60
            point 2 0 5 x16
            way 0 2 0 = NONE
            stand 0 0 5 76
            way 0 2 0 = NONE
            stand 0 0 5 75
            way 0 2 * = 1 0 75 75 24 5
            """);
    }

    private static void seen() {
        says("Terms 2", "A POINT is SEEN by it, if at its TICK, FREE or behind,", """
            stand 0 0 5 3
            track 1 2  0 5  0 5  0 5
            way 0 1 * = 2 0 3 4 24 5
            where 0 1 3 2 = 1
            where 0 1 4 2 = 1
            stand 0 0 5 4
            way 0 1 * = 1 0 4 4 24 5
            stand 0 0 5 2
            way 0 1 * = 3 0 2 4 24 5
            stand 0 0 5 1
            where 0 1 1 2 = 0
            """);
        says("Terms 2", "the DIRECTION is that of the POINT,", """
            track 1 3  0 5
            stand 0 0 5 3
            way 0 1 0 = 1
            stand 0 24 5 3
            way 0 1 * = 1 0 3 3 48 5
            stand 0 -24 5 3
            way 0 1 * = 1 0 3 3 0 5
            stand 0 1 5 3
            way 0 1 0 = 0
            stand 0 -1 5 3
            way 0 1 0 = 0
            stand 0 0 4 3
            way 0 1 0 = 0
            stand 0 0 6 3
            way 0 1 0 = 0
            key 6
            track 2 3  12 6
            way 0 2 0 = 0
            """);
        says("Terms 2", "and the HEIGHT is no more than KEY,", """
            track 1 0  0 5
            track 2 0  0 6
            track 3 0  0 0
            track 4 0  0 1
            stand 0 0 5 0
            stand 1 0 6 0
            stand 2 0 0 0
            stand 3 0 1 0
            way 0 1 0 = 1
            way 1 2 0 = 0
            key 4
            way 0 1 0 = 0
            key 6
            way 0 1 0 = 1
            way 1 2 0 = 1
            key 0
            way 2 3 0 = 1
            way 3 4 0 = 0
            key 1
            way 3 4 0 = 1
            """);
        says("Terms 2", "and not BURNT (at FREE, too).", """
            stand 0 0 4 0
            track 1 0  0 4
            sun 0 40 4 0
            way 0 1 * = 0 0 NONE NONE 24 4
            where 0 1 0 2 = 0
            sun 0 40 3 1
            way 0 1 0 = 0
            sun 2 40 4 1
            way 0 1 0 = 1
            storm 0 0
            way 0 1 0 = 1
            sun 2 40 4 2
            way 0 1 0 = 0
            track 2 1  1 4
            sun 1 40 4 0
            way 0 2 0 = 0
            sun 0 40 4 0
            storm 1 0
            way 0 2 0 = 1
            """);
        says("Terms 2", "STEPS: by how much WINDS and HEIGHTS are changed, all added.", """
            set 0 1 3
            stand 0 0 3 0
            track 1 1  3 4  0 3
            way 0 1 * = 2 8 1 2 24 3
            track 2 0  0 3
            way 0 2 1 = 0
            track 3 10  0 2
            way 0 3 1 = 1
            track 4 10  23 3
            way 0 4 1 = 1
            """);
    }

    private static void theWay() {
        says("Terms 2", "THE WAY: of all WAYS those by which most POINTS are SEEN;", """
            stand 0 0 5 0
            track 1 10  10 5
            way 0 1 * = 1 10 10 10 34 5
            track 2 1  1 5  22 5  22 5
            way 0 2 * = 2 2 2 3 22 5
            track 3 1  0 5  12 0  0 5
            way 0 3 * = 2 0 1 3 24 5
            """);
        says("Terms 2", "of these those of the fewest STEPS;", """
            stand 0 13 5 0
            track 1 20  0 5
            way 0 1 * = 1 11 20 20 48 5
            stand 0 11 5 0
            way 0 1 * = 1 11 20 20 24 5
            track 2 1  12 0
            way 0 2 * = 0 0 NONE NONE 35 5
            stand 1 0 5 0
            track 3 3  3 5  22 5
            way 1 3 * = 1 2 4 4 22 5
            track 4 1  1 5  12 0  22 5
            way 1 4 * = 1 1 1 1 25 5
            track 5 1  23 5  12 0  2 5
            way 1 5 * = 1 1 1 1 23 5
            stand 1 0 3 0
            track 6 1  0 4  12 0  0 1
            way 1 6 * = 1 1 1 1 24 4
            track 7 1  0 2  12 0  0 5
            way 1 7 * = 1 1 1 1 24 2
            """);
    }

    private static void theFirstWay() {
        says("Terms 2", "of these the first one: of two, at the first TICK at which they differ, that of the lesser WIND,", """
            stand 0 0 5 0
            track 1 3  1 5
            where 0 1 1 0 = 24
            where 0 1 2 0 = 24
            where 0 1 3 0 = 25
            track 2 3  23 5
            where 0 2 1..3 0 = 23
            track 3 12  12 5
            way 0 3 * = 1 12 12 12 12 5
            where 0 3 1 0 = 23
            track 4 20  12 5
            way 0 4 4 = 12
            where 0 4 12 0 = 12
            set 0 1 3
            where 0 4 1 0 = 21
            where 0 4 4 0 = 12
            track 5 4  2 5  22 5
            way 0 5 4 = 22
            where 0 5 1 0 = 22
            stand 1 0 4 0
            track 6 2  23 5
            where 1 6 1 * = 23 4 0
            where 1 6 2 * = 23 5 1
            """);
        says("Terms 2", "of one WIND that of the lesser HEIGHT.", """
            track 1 3  0 5
            where 0 1 1..3 1 = 5
            stand 0 0 4 0
            where 0 1 1..2 1 = 4
            where 0 1 3 1 = 5
            track 2 2  1 5
            where 0 2 1 * = 24 4 0
            where 0 2 2 * = 25 5 1
            stand 0 0 6 0
            where 0 2 1 * = 24 5 0
            where 0 2 2 * = 25 5 1
            stand 0 0 4 0
            track 4 1  0 5  0 3
            way 0 4 * = 1 1 2 2 24 3
            where 0 4 1 1 = 3
            stand 0 0 3 0
            sun 22 40 3 1
            track 5 2  1 1  23 5
            way 0 5 * = 1 3 2 2 25 1
            where 0 5 1 * = 24 2 0
            """);
    }

    private static void theOffer() {
        says("Terms 2", "THE OFFER for a PASS: the DISH by whose WAY most POINTS are SEEN,", """
            track 1 3  2 5  4 5
            set 3 1 2
            way 0 1 0 = 1
            way 3 1 0 = 2
            offer 1 0 = 3
            offer 1 1 = 2
            """);
        says("Terms 2", "of such that of the fewest STEPS,", """
            track 1 3  2 5
            way 0 1 1 = 3
            stand 2 1 5 0
            way 2 1 1 = 1
            stand 3 1 6 0
            way 3 1 1 = 2
            offer 1 0 = 2
            stand 3 2 5 3
            offer 1 0 = 3
            """);
        says("Terms 2", "of such the least one;", """
            track 1 3  2 5
            offer 1 0 = 0
            stand 0 0 6 2
            offer 1 0 = 1
            stand 1 0 6 4
            offer 1 0 = 2
            stand 1..3 0 6 2
            offer 1 0 = 0
            stand 0 1 6 3
            offer 1 0 = 0
            stand 0 1 6 4
            offer 1 0 = 1
            """);
        says("Terms 2", "NONE, if no DISH has a WAY.", """
            track 1 3  2 5
            stand 0..3 0 6 4
            offer 1 0 = NONE
            offer 1 1 = NONE
            stand 3 12 6 3
            offer 1 0 = 3
            offer 1 1 = 0
            """);
    }

    private static void handedOver() {
        says("Terms 2", "HANDED OVER at k (0 to as many POINTS as there are):", """
            stand 0 0 5 0
            stand 1 12 5 0
            track 1 1  0 5  0 5  0 5
            share 1 0 1 0 = 3
            share 1 0 1 1 = 3
            share 1 1 0 0 = 0
            share 1 1 0 1 = 3
            pass 2 60
            point 2 0 5 x16
            stand 1 0 5 79
            share 2 0 1 0 = 16
            share 2 0 1 1 = 16
            share 2 1 0 0 = 0
            share 2 1 0 1 = 16
            """);
        says("Terms 2", "one DISH as if the PASS had its first k POINTS alone,", """
            stand 0 0 3 0
            stand 1 0 6 0
            track 1 0  0 3  0 3  0 3  0 5
            way 0 1 0 = 3
            storm 2 2
            way 0 1 0 = NONE
            share 1 0 1 0 = 2
            share 1 0 1 1 = 3
            """);
        says("Terms 2", "another one as if POINTS before the k-th were none that can be SEEN:", """
            stand 0 0 5 0
            stand 1 0 5 0
            track 1 1  1 5  23 5  23 5  22 5
            way 1 1 0 = 3
            way 0 1 0 = 3
            share 1 0 1 0 = 1
            share 1 0 1 1 = 4
            track 2 1  1 5  1 5  1 5  23 5  23 5
            way 1 2 * = 4 3 1 5 23 5
            share 2 0 1 0 = 3
            share 2 0 1 1 = 5
            """);
        says("Terms 2", "the POINTS that are SEEN by THE WAYS of both, added", """
            stand 0 0 5 0
            stand 1 12 5 0
            track 1 1  0 5  0 5  12 5  12 5  12 5
            share 1 0 1 0 = 2
            share 1 0 1 1 = 5
            share 1 1 0 0 = 5
            share 1 1 0 1 = 3
            track 2 1  23 5  22 5  13 5  14 5
            share 2 0 1 * = 2 4
            track 3 1  1 5  2 5  11 5  10 5
            share 3 0 1 * = 2 4
            stand 0 0 3 0
            stand 1 12 3 0
            track 4 1  0 4  0 5  12 1  12 0
            share 4 0 1 * = 2 4
            track 5 1  0 2  0 1  12 5  12 5
            share 5 0 1 * = 2 4
            """);
    }

    private static void handedOverWithoutWays() {
        says("Terms 2", "(0 of the first one, if k is 0, or if it has no WAY;", """
            stand 0 0 5 1
            stand 1 0 5 3
            track 1 0  0 5  0 5  0 5  0 5
            share 1 0 1 0 = 3
            share 1 0 1 1 = 3
            share 1 1 0 0 = 0
            share 1 1 0 1 = 3
            stand 0 0 5 79
            share 1 0 1 0 = 0
            share 1 0 1 1 = 1
            stand 0 0 5 0
            storm 0 0
            share 1 0 2 0 = 1
            share 1 0 2 1 = 4
            storm 1 3
            stand 0 0 4 0
            stand 1 0 5 3
            share 1 0 1 0 = 0
            share 1 0 1 1 = 1
            """);
        says("Terms 2", "0 of the second one, if k is as many, or if it has no WAY).", """
            stand 0 0 5 0
            stand 1 0 5 79
            track 1 0  0 5  0 5  0 5
            share 1 0 1 0 = 3
            share 1 0 1 1 = 3
            stand 1 0 3 0
            storm 1 1
            way 1 1 0 = NONE
            stand 0 0 3 0
            share 1 0 1 0 = 0
            share 1 0 1 1 = 0
            stand 0 0 5 0
            share 1 0 1 0 = 3
            share 1 0 1 1 = 2
            storm 2 2
            share 1 0 1 0 = 2
            share 1 0 1 1 = 2
            storm 2 1
            stand 1 0 5 1
            share 1 0 1 * = 1 3
            track 2 0  0 5  0 5
            share 2 0 1 * = 1 2
            share 2 2 1 * = 0 1
            track 3 0  0 5  0 5  12 0
            share 3 0 1 * = 1 2
            """);
    }

    private static void taken() {
        says("Terms 3", "A DISH TAKES a PASS: it goes THE WAY: it stands where that ends,", """
            track 1 3  23 5  22 5
            way 1 1 * = 2 3 3 4 22 5
            take 1 1 = 2
            dish 1 * = 22 5 5 24 1 22
            dish 0 * = 24 6 0 24 1 0
            track 2 6  12 0
            take 1 2 = 0
            dish 1 * = 22 5 7 24 1 22
            """);
        says("Terms 3", "FREE is the TICK behind that of the last POINT;", """
            track 1 3  0 5  12 0  12 0
            take 0 1 = 1
            dish 0 2 = 6
            track 2 0  0 5
            take 1 2 = 0
            dish 1 2 = 1
            pass 3 60
            point 3 0 5 x16
            take 2 3 = 16
            dish 2 2 = 76
            track 4 6  0 5
            take 0 4 = 1
            dish 0 2 = 7
            track 5 6  0 5
            take 0 5 = NO
            """);
        says("Terms 3", "the PASS is TAKEN by it;", """
            track 1 3  0 5
            told 1 3 = NONE
            take 3 1 = 1
            told 1 3 = 3
            count 1 = 1
            take 0 1 = STATE
            """);
        says("Terms 3", "each POINT that is SEEN is LOOKED at once more.", """
            track 1 3  0 5  12 0  0 5  1 5
            take 0 1 = 3
            looked 0 5 = 2
            looked 1 5 = 1
            looked 12 0 = 0
            count 3 = 3
            count 4 = 2
            track 2 3  0 5
            take 1 2 = 1
            looked 0 5 = 3
            count 3 = 4
            count 4 = 2
            """);
        says("Terms 3", "(A PASS that is TAKEN gets no more POINTS.)", """
            track 1 3  0 5
            take 0 1
            point 1 0 5 = STATE
            told 1 1 = 1
            """);
        says("Constants", "What refused calls answer; NONE: there is none.", """
            drop 0 = -1
            pass 100 0 = -2
            restore 0 = -3
            pass 0..7 0
            pass 8 0 = -4
            pass 0 0 = -5
            order 8 = -6
            """);
    }
}
