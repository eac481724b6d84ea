/** The promises, sentence by sentence, each with rows that fail if it does not hold. */
final class CallSentences {
    private CallSentences() {
    }

    static void all() {
        newObject();
        pass();
        point();
        drop();
        stand();
        set();
        sun();
        storm();
        key();
        burnt();
        told();
        order();
        dish();
        way();
        where();
        offer();
        share();
        take();
        round();
        looked();
        count();
        image();
        restore();
    }

    private static void says(int promise, String words, String rows) {
        SentenceTest.says("Promise " + promise, words, rows);
    }

    private static void newObject() {
        says(1, "No PASS;", """
            count 0 = 0
            count 1 = 0
            count 2 = 0
            order -1 = 0
            order 0 = NONE
            told 0..99 0 = UNKNOWN
            drop 0..99 = UNKNOWN
            round = 0
            """);
        says(1, "nothing was LOOKED at;", """
            looked 0..23 0..6 = 0
            count 3 = 0
            count 4 = 0
            """);
        says(1, "no IMAGE is kept.", """
            count 11 = 0
            restore 0 = STATE
            restore 1 = STATE
            """);
    }

    private static void pass() {
        says(2, "A PASS with this NAME comes, with a BEGIN: how many PASSES there are.", """
            pass 5 17 = 1
            told 5 * = 17 0 0 NONE NONE
            pass 6 0 = 2
            told 6 * = 0 0 1 NONE NONE
            drop 5 = 1
            pass 7 60 = 2
            pass 5 3 = 3
            told 5 * = 3 0 2 NONE NONE
            """);
        says(2, "OUTSIDE: both;", """
            pass -1 0 = OUTSIDE
            pass 100 0 = OUTSIDE
            pass NONE 0 = OUTSIDE
            pass MIN 0 = OUTSIDE
            pass MAX 0 = OUTSIDE
            pass 0 -1 = OUTSIDE
            pass 0 61 = OUTSIDE
            pass 0 MIN = OUTSIDE
            pass 0 MAX = OUTSIDE
            pass 100 61 = OUTSIDE
            count 0 = 0
            pass 0 60 = 1
            pass 99 0 = 2
            """);
        says(2, "NO: there is one of this NAME;", """
            pass 5 1 = 1
            pass 5 1 = NO
            pass 5 2 = NO
            told 5 0 = 1
            count 0 = 1
            drop 5 = 0
            pass 5 2 = 1
            track 6 1  0 5
            take 0 6 = 1
            pass 6 1 = NO
            told 6 3 = 0
            """);
        says(2, "FULL: there are 8.", """
            pass 1..7 0
            pass 8 0 = 8
            pass 9 0 = FULL
            count 0 = 8
            told 9 0 = UNKNOWN
            point 8 0 6
            take 0 8 = 0
            pass 9 0 = FULL
            drop 8 = 7
            pass 9 0 = 8
            pass 8 0 = FULL
            """);
    }

    private static void point() {
        says(3, "A PASS has a POINT more: how many it has.", """
            pass 5 1
            pass 6 1
            point 5 0 5 = 1
            point 5 0 5 = 2
            point 6 23 6 = 1
            point 5 23 0 = 3
            told 5 1 = 3
            told 6 1 = 1
            drop 5
            pass 5 1
            point 5 0 5 = 1
            """);
        says(3, "UNKNOWN;", """
            point 5 0 5 = UNKNOWN
            pass 5 1
            point 6 0 5 = UNKNOWN
            point -1 0 5 = UNKNOWN
            point 100 0 5 = UNKNOWN
            point NONE 0 5 = UNKNOWN
            point MIN 0 5 = UNKNOWN
            point MAX 0 5 = UNKNOWN
            drop 5
            point 5 0 5 = UNKNOWN
            count 2 = 0
            """);
        says(3, "OUTSIDE: both;", """
            pass 5 1
            point 5 -1 5 = OUTSIDE
            point 5 24 5 = OUTSIDE
            point 5 MIN 5 = OUTSIDE
            point 5 MAX 5 = OUTSIDE
            point 5 0 -1 = OUTSIDE
            point 5 0 7 = OUTSIDE
            point 5 0 MIN = OUTSIDE
            point 5 0 MAX = OUTSIDE
            point 5 24 7 = OUTSIDE
            told 5 1 = 0
            point 5 0 6 = 1
            point 5 23 0 = 2
            """);
        says(3, "STATE: it is TAKEN;", """
            track 5 1  0 5
            track 6 9  0 5
            take 0 5 = 1
            point 5 0 5 = STATE
            told 5 1 = 1
            point 6 0 5 = 2
            round = 1
            point 6 0 5 = STATE
            drop 6
            pass 6 9
            point 6 0 5 = 1
            """);
        says(3, "FULL: it has 16.", """
            pass 5 60
            pass 6 60
            point 5 0 5 x15
            point 5 1 5 = 16
            point 5 0 5 = FULL
            told 5 1 = 16
            point 6 0 5 = 1
            count 2 = 17
            """);
    }

    private static void drop() {
        says(4, "A PASS goes (TAKEN or not): how many there are.", """
            track 1 1  0 5
            track 2 2  0 4
            pass 3 3
            track 4 4  1 5  2 5
            take 0 1 = 1
            drop 2 = 3
            told 2 0 = UNKNOWN
            told 1 * = 1 1 0 0 1
            told 3 * = 3 0 1 NONE NONE
            told 4 * = 4 2 2 NONE NONE
            drop 1 = 2
            told 1 0 = UNKNOWN
            looked 0 5 = 1
            dish 0 * = 24 5 2
            count * = 2 0 2 1 1
            drop 4 = 1
            drop 3 = 0
            order 0 = NONE
            """);
        says(4, "UNKNOWN.", """
            drop 0 = UNKNOWN
            pass 1 0
            drop 0 = UNKNOWN
            drop -1 = UNKNOWN
            drop 100 = UNKNOWN
            drop NONE = UNKNOWN
            drop MIN = UNKNOWN
            drop MAX = UNKNOWN
            count 0 = 1
            drop 1 = 0
            drop 1 = UNKNOWN
            """);
    }

    private static void stand() {
        says(5, "A DISH stands with a WIND, a HEIGHT, from TICK free on: 1.", """
            stand 1 -24 0 79 = 1
            dish 1 * = 0 0 79 24 1 0
            stand 1 24 6 0 = 1
            dish 1 * = 48 6 0 24 1 0
            stand 1 -3 2 7 = 1
            dish 1 * = 21 2 7 24 1 21
            dish 0 * = 24 6 0 24 1 0
            dish 2 * = 24 6 0 24 1 0
            dish 3 * = 24 6 0 24 1 0
            """);
        says(5, "UNKNOWN;", """
            stand -1 0 0 0 = UNKNOWN
            stand 4 0 0 0 = UNKNOWN
            stand MIN 0 0 0 = UNKNOWN
            stand MAX 0 0 0 = UNKNOWN
            stand 0..3 0 0 0 = 1
            """);
        says(5, "OUTSIDE: all three (the WIND: beyond LIMIT).", """
            stand 0 -25 3 3 = OUTSIDE
            stand 0 25 3 3 = OUTSIDE
            stand 0 MIN 3 3 = OUTSIDE
            stand 0 MAX 3 3 = OUTSIDE
            stand 0 3 -1 3 = OUTSIDE
            stand 0 3 7 3 = OUTSIDE
            stand 0 3 MIN 3 = OUTSIDE
            stand 0 3 MAX 3 = OUTSIDE
            stand 0 3 3 -1 = OUTSIDE
            stand 0 3 3 80 = OUTSIDE
            stand 0 3 3 MIN = OUTSIDE
            stand 0 3 3 MAX = OUTSIDE
            dish 0 * = 24 6 0 24 1 0
            set 0 0 36
            stand 0 -37 3 3 = OUTSIDE
            stand 0 37 3 3 = OUTSIDE
            stand 0 -36 3 3 = 1
            stand 0 36 3 3 = 1
            stand 0 0 3 3 = 1
            set 0 0 12
            stand 0 -13 3 3 = OUTSIDE
            stand 0 13 3 3 = OUTSIDE
            stand 0 -12 3 3 = 1
            stand 0 12 3 3 = 1
            stand 1 13 3 3 = 1
            """);
    }

    private static void set() {
        says(6, "LIMIT (what = 0), SPEED (1) of a DISH is n: which it was.", """
            set 2 0 36 = 24
            set 2 0 12 = 36
            set 2 0 12 = 12
            set 2 1 3 = 1
            set 2 1 2 = 3
            set 2 1 1 = 2
            set 2 1 1 = 1
            dish 2 * = 12 6 0 12 1 0
            dish 0 * = 24 6 0 24 1 0
            dish 1 * = 24 6 0 24 1 0
            dish 3 * = 24 6 0 24 1 0
            """);
        says(6, "UNKNOWN;", """
            set -1 0 24 = UNKNOWN
            set 4 0 24 = UNKNOWN
            set MIN 1 1 = UNKNOWN
            set MAX 1 1 = UNKNOWN
            set 0..3 0 24 = 24
            """);
        says(6, "OUTSIDE: both;", """
            set 0 -1 12 = OUTSIDE
            set 0 2 12 = OUTSIDE
            set 0 MIN 12 = OUTSIDE
            set 0 MAX 12 = OUTSIDE
            set 0 2 1 = OUTSIDE
            set 0 -1 1 = OUTSIDE
            set 0 0 11 = OUTSIDE
            set 0 0 37 = OUTSIDE
            set 0 0 1 = OUTSIDE
            set 0 0 -24 = OUTSIDE
            set 0 0 MIN = OUTSIDE
            set 0 0 MAX = OUTSIDE
            set 0 1 0 = OUTSIDE
            set 0 1 4 = OUTSIDE
            set 0 1 12 = OUTSIDE
            set 0 1 MIN = OUTSIDE
            set 0 1 MAX = OUTSIDE
            dish 0 * = 24 6 0 24 1 0
            """);
        says(6, "NO: its WIND would be beyond LIMIT.", """
            stand 0 15 6 0
            set 0 0 14 = NO
            set 0 0 12 = NO
            dish 0 3 = 24
            set 0 0 15 = 24
            stand 1 -15 6 0
            set 1 0 14 = NO
            dish 1 3 = 24
            set 1 0 15 = 24
            dish 1 0 = 0
            set 0 1 1 = 1
            set 1 1 3 = 1
            stand 2 13 6 0
            set 2 0 12 = NO
            stand 2 12 6 0
            set 2 0 12 = 24
            """);
    }

    private static void sun() {
        says(7, "FROM (0 to 23), EVERY (1 to 40), HEIGHT, CONE of THE SUN: 1.", """
            sun 0 1 0 -1 = 1
            count 6 = 0
            count 7 = 0
            count 8 = 0
            sun 23 40 6 3 = 1
            count 6 = 23
            count 7 = 6
            count 8 = 4
            burnt 2 3 39 = 1
            burnt 3 3 39 = 0
            burnt 3 3 40 = 1
            sun 12 1 2 0 = 1
            burnt 12 2 0 = 1
            burnt 13 2 1 = 1
            burnt 12 2 1 = 0
            """);
        says(7, "OUTSIDE: all four.", """
            sun 5 7 2 1
            sun -1 1 0 0 = OUTSIDE
            sun 24 1 0 0 = OUTSIDE
            sun MIN 1 0 0 = OUTSIDE
            sun MAX 1 0 0 = OUTSIDE
            sun 0 0 0 0 = OUTSIDE
            sun 0 -1 0 0 = OUTSIDE
            sun 0 41 0 0 = OUTSIDE
            sun 0 MIN 0 0 = OUTSIDE
            sun 0 MAX 0 0 = OUTSIDE
            sun 0 1 -1 0 = OUTSIDE
            sun 0 1 7 0 = OUTSIDE
            sun 0 1 MIN 0 = OUTSIDE
            sun 0 1 MAX 0 = OUTSIDE
            sun 0 1 0 -2 = OUTSIDE
            sun 0 1 0 4 = OUTSIDE
            sun 0 1 0 MIN = OUTSIDE
            sun 0 1 0 MAX = OUTSIDE
            count 6 = 5
            count 7 = 2
            count 8 = 2
            burnt 4 2 6 = 1
            burnt 4 2 7 = 0
            """);
    }

    private static void storm() {
        says(8, "A STORM is from a TICK to another one, both with it;", """
            storm 0 79 = 1
            count 9 = 0
            count 10 = 79
            storm 3 4 = 1
            count 9 = 3
            count 10 = 4
            stand 0 0 5 1
            track 1 2  0 5  0 5  0 5  0 5
            where 0 1 2 1 = 5
            where 0 1 3..4 1 = 6
            where 0 1 5 1 = 5
            storm 79 79 = 1
            count 9 = 79
            count 10 = 79
            storm 0 0 = 1
            count 9 = 0
            count 10 = 0
            storm 3 3 = 1
            where 0 1 2 1 = 5
            where 0 1 3 1 = 6
            where 0 1 4 1 = 5
            """);
        says(8, "there is none, if the first one is behind the other one: 1.", """
            stand 0 0 5 4
            track 1 5  0 5  0 5
            storm 5 6 = 1
            way 0 1 0 = 0
            storm 6 5 = 1
            count 9 = NONE
            count 10 = NONE
            way 0 1 0 = 2
            storm 5 5 = 1
            count 9 = 5
            way 0 1 0 = 1
            storm 79 0 = 1
            count 9 = NONE
            count 10 = NONE
            way 0 1 0 = 2
            """);
        says(8, "OUTSIDE: both are no TICKS.", """
            storm 3 4
            storm -1 5 = OUTSIDE
            storm 80 5 = OUTSIDE
            storm MIN 5 = OUTSIDE
            storm MAX 5 = OUTSIDE
            storm 5 -1 = OUTSIDE
            storm 5 80 = OUTSIDE
            storm 5 MIN = OUTSIDE
            storm 5 MAX = OUTSIDE
            storm -1 80 = OUTSIDE
            storm 80 -1 = OUTSIDE
            count 9 = 3
            count 10 = 4
            """);
    }

    private static void key() {
        says(9, "KEY is n: which it was.", """
            key 0 = 5
            key 6 = 0
            key 6 = 6
            key 3 = 6
            count 5 = 3
            stand 0 0 3 0
            track 1 0  0 3
            way 0 1 0 = 1
            key 2 = 3
            way 0 1 0 = 0
            """);
        says(9, "OUTSIDE.", """
            key -1 = OUTSIDE
            key 7 = OUTSIDE
            key MIN = OUTSIDE
            key MAX = OUTSIDE
            count 5 = 5
            """);
    }

    private static void burnt() {
        says(10, "Whether a DIRECTION is BURNT at a TICK: 1, 0.", """
            burnt 0 3 0 = 0
            sun 0 40 3 0
            burnt 0 3 0 = 1
            burnt 0 3 39 = 1
            burnt 0 3 40 = 0
            burnt 1 3 40 = 1
            burnt 1 3 0 = 0
            burnt 23 3 0 = 0
            burnt 0 2 0 = 0
            burnt 0 4 0 = 0
            sun 0 40 6 1
            burnt 23 6 0 = 1
            burnt 23 5 0 = 1
            burnt 23 4 0 = 0
            burnt 22 6 0 = 0
            sun 23 40 0 1
            burnt 0 0 0 = 1
            burnt 0 1 0 = 1
            burnt 0 2 0 = 0
            burnt 1 0 0 = 0
            """);
        says(10, "OUTSIDE: all three.", """
            sun 0 1 3 3
            burnt -1 3 0 = OUTSIDE
            burnt 24 3 0 = OUTSIDE
            burnt MIN 3 0 = OUTSIDE
            burnt MAX 3 0 = OUTSIDE
            burnt 0 -1 0 = OUTSIDE
            burnt 0 7 0 = OUTSIDE
            burnt 0 MIN 0 = OUTSIDE
            burnt 0 MAX 0 = OUTSIDE
            burnt 0 3 -1 = OUTSIDE
            burnt 0 3 80 = OUTSIDE
            burnt 0 3 MIN = OUTSIDE
            burnt 0 3 MAX = OUTSIDE
            burnt 23 6 79 = 0
            burnt 10 6 79 = 1
            burnt 11 6 79 = 0
            """);
    }

    private static void told() {
        says(11, "Of a PASS: its BEGIN (what = 0), how many POINTS (1), of the how manieth coming it is, of those that are"
            + " there, from 0 on (2), the DISH by which it is TAKEN (3; NONE), how many POINTS were SEEN then (4; NONE).", """
            pass 9 0
            track 5 60  0 5  1 5  12 0
            track 6 0  12 0
            told 9 * = 0 0 0 NONE NONE
            told 5 * = 60 3 1 NONE NONE
            told 6 * = 0 1 2 NONE NONE
            take 3 5 = 2
            told 5 * = 60 3 1 3 2
            take 0 6 = 0
            told 6 * = 0 1 2 0 0
            drop 9
            told 5 * = 60 3 0 3 2
            told 6 * = 0 1 1 0 0
            sun 0 40 5 3
            key 0
            told 5 4 = 2
            pass 9 7
            told 9 * = 7 0 2 NONE NONE
            drop 5
            pass 5 8
            told 5 * = 8 0 2 NONE NONE
            """);
        says(11, "UNKNOWN;", """
            told 5 0 = UNKNOWN
            pass 5 0
            told 4 0 = UNKNOWN
            told -1 0 = UNKNOWN
            told NONE 0 = UNKNOWN
            told 100 0 = UNKNOWN
            told MIN 0 = UNKNOWN
            told MAX 0 = UNKNOWN
            drop 5
            told 5 0 = UNKNOWN
            """);
        says(11, "OUTSIDE.", """
            pass 5 0
            told 5 -1 = OUTSIDE
            told 5 5 = OUTSIDE
            told 5 MIN = OUTSIDE
            told 5 MAX = OUTSIDE
            """);
    }

    private static void order() {
        says(12, "The NAME of the i-th PASS in the order in which they came, from 0 on;", """
            pass 50 9
            pass 3 60
            pass 99 0
            pass 0 4
            order * = 50 3 99 0
            drop 3
            order * = 50 99 0 NONE
            pass 3 0
            order * = 50 99 0 3
            drop 50
            order * = 99 0 3
            drop 3
            order * = 99 0 NONE
            """);
        says(12, "i = -1: how many;", """
            order -1 = 0
            pass 1..8 0
            order -1 = 8
            drop 1
            order -1 = 7
            """);
        says(12, "NONE: there is none such (i below -1, too).", """
            order 0 = NONE
            order -2 = NONE
            pass 1 0
            order 1 = NONE
            order -2 = NONE
            order MIN = NONE
            order MAX = NONE
            pass 2..8 0
            order 7 = 8
            order 8 = NONE
            drop 4
            order 7 = NONE
            """);
    }

    private static void dish() {
        says(13, "Of a DISH: WIND, LIMIT added (what = 0), HEIGHT (1), FREE (2; 80 at most), LIMIT (3), SPEED (4), SIDE (5).", """
            dish 0 * = 24 6 0 24 1 0
            set 0 0 36
            set 0 1 3
            stand 0 -36 0 79
            dish 0 * = 0 0 79 36 3 12
            stand 0 36 5 78
            dish 0 * = 72 5 78 36 3 12
            stand 0 -25 1 1
            dish 0 * = 11 1 1 36 3 23
            stand 3 -1 2 3
            dish 3 * = 23 2 3 24 1 23
            pass 1 60
            point 1 0 5 x16
            take 1 1 = 16
            dish 1 * = 24 5 76 24 1 0
            """);
        says(13, "UNKNOWN;", """
            dish -1 0 = UNKNOWN
            dish 4 0 = UNKNOWN
            dish MIN 0 = UNKNOWN
            dish MAX 0 = UNKNOWN
            dish 0..3 0 = 24
            """);
        says(13, "OUTSIDE.", """
            dish 0 -1 = OUTSIDE
            dish 0 6 = OUTSIDE
            dish 3 MIN = OUTSIDE
            dish 3 MAX = OUTSIDE
            """);
    }

    private static void way() {
        says(14, "Of THE WAY of a DISH for a PASS: how many POINTS are SEEN (what = 0), STEPS (1), the TICK of the first POINT"
            + " that is SEEN (2; NONE), of the last one (3; NONE), WIND, LIMIT added, at its end (4), HEIGHT (5);", """
            track 1 3  1 5  12 0  1 4  12 0
            way 0 1 * = 2 3 3 5 25 4
            key 4
            way 0 1 * = 1 3 5 5 25 4
            key 3
            way 0 1 * = 0 0 NONE NONE 24 6
            set 0 0 36
            way 0 1 * = 0 0 NONE NONE 36 6
            track 2 0  0 3
            stand 1 0 3 0
            way 1 2 * = 1 0 0 0 24 3
            """);
        says(14, "NONE: there is no WAY.", """
            track 1 3  0 5  0 5
            stand 0 0 6 5
            way 0 1 * = NONE NONE NONE NONE NONE NONE
            stand 0 0 6 4
            way 0 1 * = 0 0 NONE NONE 24 6
            stand 0 0 4 3
            storm 4 4
            way 0 1 * = NONE NONE NONE NONE NONE NONE
            """);
        says(14, "UNKNOWN: both;", """
            way 0 1 0 = UNKNOWN
            track 1 3  0 5
            way -1 1 0 = UNKNOWN
            way 4 1 0 = UNKNOWN
            way MIN 1 0 = UNKNOWN
            way MAX 1 0 = UNKNOWN
            way 0 2 0 = UNKNOWN
            way 0 -1 0 = UNKNOWN
            way 0 NONE 0 = UNKNOWN
            way 0 100 0 = UNKNOWN
            way 0 MIN 0 = UNKNOWN
            way 0 MAX 0 = UNKNOWN
            way 4 2 0 = UNKNOWN
            way 0..3 1 0 = 1
            drop 1
            way 0 1 0 = UNKNOWN
            """);
        says(14, "OUTSIDE;", """
            track 1 3  0 5
            way 0 1 -1 = OUTSIDE
            way 0 1 6 = OUTSIDE
            way 0 1 MIN = OUTSIDE
            way 0 1 MAX = OUTSIDE
            """);
        says(14, "STATE: the PASS has no POINTS, or is TAKEN.", """
            pass 1 3
            way 0 1 * = STATE STATE STATE STATE STATE STATE
            point 1 0 5
            way 0 1 0 = 1
            take 2 1
            way 0 1 * = STATE STATE STATE STATE STATE STATE
            way 2 1 * = STATE STATE STATE STATE STATE STATE
            """);
    }

    private static void where() {
        says(15, "WIND, LIMIT added (what = 0), HEIGHT (1) at a TICK of THE WAY of a DISH for a PASS,", """
            stand 0 -2 4 1
            track 1 3  23 5  0 5
            where 0 1 1 0 = 22
            where 0 1 2 0 = 22
            where 0 1 3 0 = 23
            where 0 1 4 0 = 24
            where 0 1 1 1 = 4
            where 0 1 2 1 = 4
            where 0 1 3 1 = 5
            where 0 1 4 1 = 5
            set 0 0 12
            where 0 1 1 0 = 10
            where 0 1 4 0 = 12
            """);
        says(15, "whether a POINT is SEEN then (2: 1, 0);", """
            stand 0 0 5 1
            track 1 2  0 5  12 0  0 5
            where 0 1 1 2 = 0
            where 0 1 2 2 = 1
            where 0 1 3 2 = 0
            where 0 1 4 2 = 1
            stand 0 0 5 2
            where 0 1 2 2 = 1
            sun 0 40 5 0
            where 0 1 2 2 = 0
            """);
        says(15, "NONE: there is no WAY, or the TICK is not one of it.", """
            track 1 3  0 5  0 5
            stand 0 0 5 2
            where 0 1 1 * = NONE NONE NONE
            where 0 1 2 * = 24 5 0
            where 0 1 4 * = 24 5 1
            where 0 1 5 * = NONE NONE NONE
            where 0 1 0 0 = NONE
            where 0 1 79 0 = NONE
            stand 0 0 5 5
            where 0 1 3 * = NONE NONE NONE
            where 0 1 4 * = NONE NONE NONE
            where 0 1 5 * = NONE NONE NONE
            stand 0 0 3 2
            storm 4 4
            where 0 1 2 * = NONE NONE NONE
            where 0 1 3 * = NONE NONE NONE
            """);
        says(15, "UNKNOWN: both;", """
            where 0 1 0 0 = UNKNOWN
            track 1 3  0 5
            where -1 1 0 0 = UNKNOWN
            where 4 1 0 0 = UNKNOWN
            where MIN 1 0 0 = UNKNOWN
            where MAX 1 0 0 = UNKNOWN
            where 0 2 0 0 = UNKNOWN
            where 0 -1 0 0 = UNKNOWN
            where 0 NONE 0 0 = UNKNOWN
            where 0 MIN 0 0 = UNKNOWN
            where 0 MAX 0 0 = UNKNOWN
            where 0..3 1 0 0 = 24
            """);
        says(15, "OUTSIDE: the TICK, what;", """
            track 1 3  0 5
            where 0 1 -1 0 = OUTSIDE
            where 0 1 80 0 = OUTSIDE
            where 0 1 MIN 0 = OUTSIDE
            where 0 1 MAX 0 = OUTSIDE
            where 0 1 0 -1 = OUTSIDE
            where 0 1 0 3 = OUTSIDE
            where 0 1 0 MIN = OUTSIDE
            where 0 1 0 MAX = OUTSIDE
            where 0 1 4 3 = OUTSIDE
            where 0 1 79 2 = NONE
            """);
        says(15, "STATE, as with way().", """
            pass 1 3
            where 0 1 0 0 = STATE
            where 0 1 79 0 = STATE
            point 1 0 5
            where 0 1 0 0 = 24
            take 2 1
            where 0 1 0 0 = STATE
            where 2 1 3 2 = STATE
            where 0 1 79 0 = STATE
            """);
    }

    private static void offer() {
        says(16, "THE OFFER for a PASS (what = 0; NONE), how many POINTS are SEEN by that (1; NONE).", """
            track 1 3  0 5  12 0  0 5
            offer 1 * = 0 2
            stand 2 0 5 1
            offer 1 * = 2 2
            stand 0..3 0 6 6
            offer 1 * = NONE NONE
            stand 1 12 6 5
            offer 1 * = 1 0
            """);
        says(16, "UNKNOWN;", """
            offer 1 0 = UNKNOWN
            track 1 3  0 5
            offer 2 0 = UNKNOWN
            offer -1 0 = UNKNOWN
            offer NONE 0 = UNKNOWN
            offer 100 0 = UNKNOWN
            offer MIN 0 = UNKNOWN
            offer MAX 0 = UNKNOWN
            """);
        says(16, "OUTSIDE;", """
            track 1 3  0 5
            offer 1 -1 = OUTSIDE
            offer 1 2 = OUTSIDE
            offer 1 MIN = OUTSIDE
            offer 1 MAX = OUTSIDE
            """);
        says(16, "STATE, as with way().", """
            pass 1 3
            offer 1 * = STATE STATE
            point 1 0 5
            offer 1 * = 0 1
            take 2 1
            offer 1 * = STATE STATE
            """);
    }

    private static void share() {
        says(17, "If a PASS is HANDED OVER from one DISH to another one, where it is best, of such the least k: k (what = 0),"
            + " how many POINTS are SEEN (1).", """
            stand 0 0 5 0
            stand 1 6 5 0
            track 1 1  0 5  0 5  12 0  6 5  6 5
            share 1 0 1 * = 2 4
            share 1 1 0 * = 0 2
            stand 2 0 5 0
            share 1 0 2 * = 0 2
            stand 2 12 6 0
            share 1 0 2 * = 2 2
            stand 3 12 6 0
            share 1 2 3 * = 0 0
            """);
        says(17, "UNKNOWN: all three;", """
            share 1 0 1 0 = UNKNOWN
            track 1 1  0 5
            share 2 0 1 0 = UNKNOWN
            share -1 0 1 0 = UNKNOWN
            share NONE 0 1 0 = UNKNOWN
            share MIN 0 1 0 = UNKNOWN
            share MAX 0 1 0 = UNKNOWN
            share 1 -1 1 0 = UNKNOWN
            share 1 4 1 0 = UNKNOWN
            share 1 MIN 1 0 = UNKNOWN
            share 1 MAX 1 0 = UNKNOWN
            share 1 0 -1 0 = UNKNOWN
            share 1 0 4 0 = UNKNOWN
            share 1 0 MIN 0 = UNKNOWN
            share 1 0 MAX 0 = UNKNOWN
            share 1 4 4 0 = UNKNOWN
            share 1 3 0 0 = 0
            share 1 0 3 0 = 0
            """);
        says(17, "OUTSIDE: what, both DISHES are one;", """
            track 1 1  0 5
            share 1 0 1 -1 = OUTSIDE
            share 1 0 1 2 = OUTSIDE
            share 1 0 1 MIN = OUTSIDE
            share 1 0 1 MAX = OUTSIDE
            share 1 0 0 0 = OUTSIDE
            share 1 3 3 1 = OUTSIDE
            share 1 1 1 2 = OUTSIDE
            """);
        says(17, "STATE, as with way().", """
            pass 1 1
            share 1 0 1 * = STATE STATE
            point 1 0 5
            share 1 0 1 * = 0 1
            take 2 1
            share 1 0 1 * = STATE STATE
            """);
    }

    private static void take() {
        says(18, "A DISH TAKES a PASS: how many POINTS are SEEN.", """
            track 1 3  0 5  12 0  1 5
            take 2 1 = 2
            told 1 * = 3 3 0 2 2
            dish 2 * = 25 5 6 24 1 1
            looked 0 5 = 1
            looked 1 5 = 1
            looked 12 0 = 0
            track 2 0  12 0
            take 0 2 = 0
            told 2 * = 0 1 1 0 0
            dish 0 * = 24 6 1 24 1 0
            count * = 2 2 4 2 2
            """);
        says(18, "UNKNOWN: both;", """
            take 0 1 = UNKNOWN
            track 1 3  0 5
            take -1 1 = UNKNOWN
            take 4 1 = UNKNOWN
            take MIN 1 = UNKNOWN
            take MAX 1 = UNKNOWN
            take 0 2 = UNKNOWN
            take 0 -1 = UNKNOWN
            take 0 NONE = UNKNOWN
            take 0 MIN = UNKNOWN
            take 0 MAX = UNKNOWN
            take 4 2 = UNKNOWN
            told 1 3 = NONE
            take 3 1 = 1
            """);
        says(18, "STATE, as with way();", """
            pass 1 3
            take 0 1 = STATE
            point 1 0 5
            take 0 1 = 1
            take 0 1 = STATE
            take 1 1 = STATE
            told 1 3 = 0
            dish 1 2 = 0
            looked 0 5 = 1
            """);
        says(18, "NO: there is no WAY.", """
            track 1 3  0 5  0 5
            stand 0 0 5 5
            take 0 1 = NO
            told 1 3 = NONE
            dish 0 * = 24 5 5
            count 3 = 0
            stand 0 0 4 3
            storm 4 4
            take 0 1 = NO
            storm 4 3
            sun 0 40 4 1
            take 0 1 = NO
            sun 0 40 4 -1
            stand 0 0 5 4
            take 0 1 = 1
            """);
    }

    private static void round() {
        says(19, "PASSES that have POINTS and are not TAKEN,", """
            round = 0
            pass 1 5
            round = 0
            told 1 3 = NONE
            track 2 5  0 5
            take 3 2 = 1
            round = 0
            told 2 3 = 3
            track 3 5  0 5
            round = 1
            told 3 3 = 0
            round = 0
            looked 0 5 = 2
            """);
        says(19, "by rising BEGINS,", """
            stand 1..3 0 6 79
            track 1 9  0 5
            track 2 6  0 5
            track 3 7  0 5
            round = 3
            told 1..3 3 = 0
            dish 0 2 = 10
            track 4 60  0 5
            track 5 10  0 5
            round = 2
            """);
        says(19, "of one BEGIN in the order in which they came,", """
            stand 2..3 0 6 79
            track 9 5  0 5
            track 1 5  1 5
            track 5 5  0 5
            round = 2
            told 9 3 = 0
            told 1 3 = 1
            told 5 3 = NONE
            """);
        says(19, "are TAKEN, each by THE OFFER for it, as things are then,", """
            track 1 5  0 5
            track 2 5  0 5
            track 3 6  0 5
            offer 3 0 = 0
            round = 3
            told 1 3 = 0
            told 2 3 = 1
            told 3 3 = 0
            dish 0 * = 24 5 7
            dish 1 * = 24 5 6
            dish 2 * = 24 6 0
            track 4 9  0 5
            offer 4 0 = 0
            stand 3 0 5 9
            set 0 1 3
            offer 4 0 = 0
            round = 1
            told 4 3 = 0
            """);
        says(19, "if any POINT is SEEN by that: how many are.", """
            track 1 0  12 0
            track 2 0  0 6
            track 3 3  0 5
            stand 1..3 0 6 79
            round = 1
            told 1 3 = NONE
            told 2 3 = NONE
            told 3 3 = 0
            count 1 = 1
            stand 0 0 6 79
            track 4 3  0 5
            round = 0
            told 4 3 = NONE
            """ + Rows.each(1, 4, n -> "drop " + n) + "stand 0..3 0 5 0;"
            + Rows.each(11, 18, n -> "track " + n + " " + 2 * n + " 0 5") + "round = 8; count 1 = 8");
    }

    private static void looked() {
        says(20, "How often a DIRECTION was LOOKED at.", """
            key 6
            stand 0 -1 6 0
            stand 1 0 0 0
            track 1 0  23 6  23 6  23 6
            track 2 0  0 0
            track 3 1  0 0
            looked 23 6 = 0
            take 0 1 = 3
            take 1 2 = 1
            looked 23 6 = 3
            looked 0 0 = 1
            round = 1
            looked 0 0 = 2
            looked 23 5 = 0
            looked 22 6 = 0
            looked 0 1 = 0
            looked 1 0 = 0
            drop 1
            looked 23 6 = 3
            """);
        says(20, "OUTSIDE: both.", """
            looked -1 0 = OUTSIDE
            looked 24 0 = OUTSIDE
            looked MIN 0 = OUTSIDE
            looked MAX 0 = OUTSIDE
            looked 0 -1 = OUTSIDE
            looked 0 7 = OUTSIDE
            looked 0 MIN = OUTSIDE
            looked 0 MAX = OUTSIDE
            looked 1 -1 = OUTSIDE
            looked 22 7 = OUTSIDE
            looked 0 0 = 0
            looked 23 6 = 0
            """);
    }

    private static void count() {
        says(21, "How many PASSES there are (what = 0), are TAKEN (1), POINTS of all (2), how often DIRECTIONS were LOOKED at,"
            + " all added (3), how many unlike ones were (4),", """
            count * = 0 0 0 0 0
            track 1 1  0 5  0 5
            pass 2 1
            count * = 2 0 2 0 0
            take 0 1 = 2
            count * = 2 1 2 2 1
            track 3 1  1 5  2 5  12 0
            count * = 3 1 5 2 1
            take 1 3 = 2
            count * = 3 2 5 4 3
            drop 1
            count * = 2 1 3 4 3
            drop 2
            drop 3
            count * = 0 0 0 4 3
            stand 2 0 0 0
            track 4 0  0 0  0 0
            take 2 4 = 2
            count * = 1 1 2 6 4
            key 6
            stand 3 -1 6 0
            track 5 0  23 6
            take 3 5 = 1
            count * = 2 2 3 7 5
            """);
        says(21, "KEY (5),", """
            count 5 = 5
            key 0
            count 5 = 0
            key 6
            count 5 = 6
            """);
        says(21, "the SIDE of THE SUN at TICK 0 (6), its HEIGHT (7), CONE and 1 (8),", """
            count 6 = 0
            count 7 = 3
            count 8 = 0
            sun 23 1 6 3
            count 6 = 23
            count 7 = 6
            count 8 = 4
            sun 7 40 0 0
            count 6 = 7
            count 7 = 0
            count 8 = 1
            """);
        says(21, "the first TICK of the STORM (9; NONE), the last one (10; NONE),", """
            count 9 = NONE
            count 10 = NONE
            storm 0 79
            count 9 = 0
            count 10 = 79
            storm 7 7
            count 9 = 7
            count 10 = 7
            storm 7 6
            count 9 = NONE
            count 10 = NONE
            """);
        says(21, "which IMAGES are kept (11: 1 the first, 2 the second, added).", """
            count 11 = 0
            image 1
            count 11 = 2
            image 0
            count 11 = 3
            image 0
            count 11 = 3
            restore 1
            count 11 = 3
            """ + "restore 0; count 11 = 3;");
        says(21, "OUTSIDE.", """
            count -1 = OUTSIDE
            count 12 = OUTSIDE
            count MIN = OUTSIDE
            count MAX = OUTSIDE
            """);
    }

    /** All that an image keeps, made unlike a new object's. */
    private static final String MUCH = """
        track 1 1  0 5  1 5
        track 2 4  2 4  1 4  0 4
        pass 3 60
        take 1 1 = 2
        set 3 0 30
        set 3 1 3
        stand 3 -30 1 9
        set 0 1 2
        sun 3 4 5 1
        storm 8 9
        key 4
        """;
    /** All of it told. */
    private static final String MUCH_IS_TOLD = """
        order * = 1 2 3 NONE
        told 1 * = 1 2 0 1 2
        told 2 * = 4 3 1 NONE NONE
        told 3 * = 60 0 2 NONE NONE
        dish 0 * = 24 6 0 24 2 0
        dish 1 * = 25 5 3 24 1 1
        dish 2 * = 24 6 0 24 1 0
        dish 3 * = 0 1 9 30 3 18
        looked 0 5 = 1
        looked 1 5 = 1
        count * = 3 1 5 2 2 4 3 5 2 8 9
        burnt 5 4 3 = 0
        burnt 5 4 4 = 1
        way 0 2 * = 3 6 4 6 24 4
        """;
    private static final String NEW_IS_TOLD = """
        order * = NONE NONE
        dish 0 * = 24 6 0 24 1 0
        dish 1 * = 24 6 0 24 1 0
        dish 2 * = 24 6 0 24 1 0
        dish 3 * = 24 6 0 24 1 0
        looked 0 5 = 0
        looked 1 5 = 0
        count * = 0 0 0 0 0 5 0 3 0 NONE NONE
        """;
    /** All of it changed, by calls of each kind. */
    private static final String OTHERWISE = """
        point 2 9 1
        drop 1
        pass 7 7
        take 2 2
        set 0 1 3
        set 3 0 36
        stand 3 36 6 0
        stand 1 1 1 1
        sun 9 9 0 3
        storm 1 0
        key 6
        """;

    private static void image() {
        says(22, "All but IMAGES is kept in an IMAGE (0, 1),", MUCH + "image 0 = 1; count 11 = 1;" + MUCH_IS_TOLD
            + OTHERWISE + "restore 0 = 1;" + MUCH_IS_TOLD + "image 1 = 1;" + OTHERWISE + "restore 1 = 1;" + MUCH_IS_TOLD);
        says(22, "in place of what was kept there: 1.", "image 0 = 1; image 1 = 1;" + MUCH + "image 0 = 1;" + OTHERWISE
            + "restore 0 = 1;" + MUCH_IS_TOLD + "restore 1 = 1;" + NEW_IS_TOLD
            + "image 0 = 1; pass 5 5; restore 0 = 1;" + NEW_IS_TOLD + "count 11 = 3");
        says(22, "OUTSIDE.", """
            image -1 = OUTSIDE
            image 2 = OUTSIDE
            image MIN = OUTSIDE
            image MAX = OUTSIDE
            count 11 = 0
            image 1 = 1
            image 0 = 1
            """);
    }

    private static void restore() {
        says(23, "All but IMAGES is as it was when it was kept;", "image 1;" + MUCH + "image 0; restore 1 = 1;" + NEW_IS_TOLD
            + "count 11 = 3; restore 0 = 1;" + MUCH_IS_TOLD + "count 11 = 3;" + OTHERWISE + "restore 0 = 1;" + MUCH_IS_TOLD);
        says(23, "the IMAGE stays: 1.", MUCH + "image 1;" + OTHERWISE + "restore 1 = 1;" + OTHERWISE + "restore 1 = 1;"
            + OTHERWISE + "restore 1 = 1;" + MUCH_IS_TOLD + "restore 1 = 1; count 11 = 2");
        says(23, "OUTSIDE;", """
            image 0
            image 1
            restore -1 = OUTSIDE
            restore 2 = OUTSIDE
            restore MIN = OUTSIDE
            restore MAX = OUTSIDE
            restore 0 = 1
            restore 1 = 1
            """);
        says(23, "STATE: nothing was kept in it.", """
            restore 0 = STATE
            restore 1 = STATE
            image 1
            restore 0 = STATE
            restore 1 = 1
            restore 0 = STATE
            image 0
            restore 0 = 1
            """);
    }
}
