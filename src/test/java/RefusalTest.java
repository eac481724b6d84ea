import java.util.ArrayList;
import java.util.List;

/**
 * Call by call: which refusal is answered where several fit, and that a refused call changes nothing. For the latter all
 * that can be told of an object behind a refused call is compared with what is told of one that was not called so. Calls
 * that only tell are held to the same.
 */
public final class RefusalTest {
    /** Eight passes: 1 and 6 taken, 6 and 2 of sixteen points, 3 and 8 without; an image of an earlier time is kept. */
    private static final String MUCH = """
        pass 1 2; point 1 0 5; point 1 1 5
        pass 2 8; point 2 2 4; point 2 3 4; point 2 4 4; point 2 4 3; point 2 5 3; point 2 6 3; point 2 6 3; point 2 7 2
        point 2 8 2; point 2 9 2; point 2 10 2; point 2 11 2; point 2 12 3; point 2 13 3; point 2 14 3; point 2 15 4
        pass 3 7
        take 0 1
        set 3 0 30; set 3 1 3; stand 3 -30 4 2
        key 6
        image 0
        key 4
        set 2 1 2; stand 2 20 5 1
        pass 4 6; point 4 23 4; point 4 22 4; point 4 22 3
        pass 5 1; point 5 20 4; point 5 21 4
        pass 6 30
        point 6 1 4; point 6 1 4; point 6 1 4; point 6 1 4; point 6 1 4; point 6 1 4; point 6 1 4; point 6 1 4
        point 6 1 4; point 6 1 4; point 6 1 4; point 6 1 4; point 6 1 4; point 6 1 4; point 6 1 4; point 6 1 4
        take 1 6
        pass 7 3; point 7 20 3
        pass 8 60
        sun 9 7 2 1
        storm 10 11
        way 0 2 0; offer 4 0; share 2 0 3 0
        """;
    private static final String NOTHING = "";

    private static final String STATE = "count 0..11; order -2..9; dish 0..3 0..5; told 1..9 0..4";
    private static final String LOOKS = "looked 0..23 0..6";
    private static final String WAYS = "way 0..3 2 0..5; way 0..3 4 0..5; way 0..3 5 0..5; way 0..3 7 0..5; offer 1..9 0..1";
    /** Each on an object of its own, as the calls of all are more than one is used for. */
    private static final String[] QUESTIONS = {
        STATE,
        LOOKS,
        WAYS,
        "way 0..3 1 0..5; way 0..3 3 0..5; share 2 0..3 0..3 0..1; share 4 0..3 0..3 0..1; share 5 0..3 0..3 0..1",
        "where 0..3 2 0..24 0..1",
        "where 0..3 2 8..23 2; where 0..3 4 5..9 0..2; where 0..3 7 0..4 0..2",
        "burnt 0..23 0..6 0",
        "burnt 0..23 0..6 7",
        "restore 0; " + STATE,
        "restore 0; " + LOOKS,
        "restore 0; " + WAYS,
        "restore 1; " + STATE,
        "round; " + STATE,
        "round; " + LOOKS,
    };

    private RefusalTest() {
    }

    private static DishRounds behind(String scene) {
        DishRounds x = new DishRounds();
        for (int answer : Rows.answers(x, scene)) {
            if (answer < 0) {
                Rows.fault("the scene itself is refused: " + answer);
            }
        }
        return x;
    }

    private static List<List<Integer>> allTold(String scene, String calls) {
        List<List<Integer>> told = new ArrayList<>();
        for (String questions : QUESTIONS) {
            DishRounds x = new DishRounds();
            int asked = Rows.answers(x, scene).size() + Rows.answers(x, calls).size();
            told.add(Rows.answers(x, questions));
            asked += told.get(told.size() - 1).size();
            if (asked > Rows.MOST_CALLS) {
                Rows.fault(asked + " calls are more than an object is used for: " + questions);
            }
        }
        return told;
    }

    private static final class Scene {
        final String text;
        final List<List<Integer>> untouched;

        Scene(String text) {
            this.text = text;
            untouched = allTold(text, "");
        }

        /** Rows "call numbers = answer": each alone behind the scene, and then all, one behind the other. */
        void changedByNone(String rows) {
            StringBuilder all = new StringBuilder();
            for (String row : rows.split("[;\n]")) {
                if (!row.isBlank()) {
                    String call = row.split("=")[0].trim();
                    int due = Rows.number(row.split("=")[1].trim());
                    for (int answer : Rows.answers(behind(text), call)) {
                        if (answer != due) {
                            Rows.fault(call + " answered " + answer + ", due is " + due);
                        }
                    }
                    staysAsItWas(call);
                    all.append(call).append('\n');
                }
            }
            staysAsItWas(all.toString());
        }

        private void staysAsItWas(String calls) {
            List<List<Integer>> told = allTold(text, calls);
            for (int i = 0; i < QUESTIONS.length; i++) {
                if (!told.get(i).equals(untouched.get(i))) {
                    Rows.fault("something is changed by: " + calls + " (questions " + i + ")");
                }
            }
        }
    }

    private static void passesAreRefused(Scene much) {
        much.changedByNone("""
            pass -1 5 = OUTSIDE; pass 100 5 = OUTSIDE; pass MIN 5 = OUTSIDE; pass MAX 5 = OUTSIDE
            pass 9 -1 = OUTSIDE; pass 9 61 = OUTSIDE; pass 9 MIN = OUTSIDE; pass 9 MAX = OUTSIDE
            pass 2 61 = OUTSIDE; pass 100 61 = OUTSIDE
            pass 1..8 5 = NO
            pass 9 5 = FULL; pass 0 0 = FULL; pass 99 60 = FULL
            """);
        much.changedByNone("""
            point 9 0 0 = UNKNOWN; point -1 0 0 = UNKNOWN; point 9 24 7 = UNKNOWN; point MIN 0 0 = UNKNOWN
            point 4 -1 0 = OUTSIDE; point 4 24 0 = OUTSIDE; point 4 MIN 0 = OUTSIDE; point 4 MAX 0 = OUTSIDE
            point 4 0 -1 = OUTSIDE; point 4 0 7 = OUTSIDE; point 4 0 MIN = OUTSIDE; point 4 0 MAX = OUTSIDE
            point 3 24 0 = OUTSIDE; point 1 24 0 = OUTSIDE; point 2 0 7 = OUTSIDE; point 6 24 7 = OUTSIDE
            point 1 0 0 = STATE; point 6 0 0 = STATE
            point 2 0 0 = FULL
            """);
        much.changedByNone("drop 9 = UNKNOWN; drop 0 = UNKNOWN; drop -1 = UNKNOWN; drop MIN = UNKNOWN; drop MAX = UNKNOWN");
    }

    private static void dishesAndSkyAreRefused(Scene much) {
        much.changedByNone("""
            stand -1 1 1 1 = UNKNOWN; stand 4 1 1 1 = UNKNOWN; stand 4 99 9 99 = UNKNOWN; stand MIN 1 1 1 = UNKNOWN
            stand 0 25 1 1 = OUTSIDE; stand 0 -25 1 1 = OUTSIDE; stand 3 31 1 1 = OUTSIDE; stand 3 -31 1 1 = OUTSIDE
            stand 0 MIN 1 1 = OUTSIDE; stand 0 MAX 1 1 = OUTSIDE
            stand 0 1 7 1 = OUTSIDE; stand 0 1 -1 1 = OUTSIDE; stand 0 1 MIN 1 = OUTSIDE; stand 0 1 MAX 1 = OUTSIDE
            stand 0 1 1 80 = OUTSIDE; stand 0 1 1 -1 = OUTSIDE; stand 0 1 1 MIN = OUTSIDE; stand 0 1 1 MAX = OUTSIDE
            """);
        much.changedByNone("""
            set -1 0 30 = UNKNOWN; set 4 1 2 = UNKNOWN; set 4 9 99 = UNKNOWN
            set 0 -1 2 = OUTSIDE; set 0 2 2 = OUTSIDE; set 0 2 30 = OUTSIDE; set 0 MIN 30 = OUTSIDE; set 0 MAX 2 = OUTSIDE
            set 0 0 11 = OUTSIDE; set 0 0 37 = OUTSIDE; set 0 0 2 = OUTSIDE; set 0 0 MIN = OUTSIDE; set 0 0 MAX = OUTSIDE
            set 0 1 0 = OUTSIDE; set 0 1 4 = OUTSIDE; set 0 1 30 = OUTSIDE; set 0 1 MIN = OUTSIDE; set 0 1 MAX = OUTSIDE
            set 3 0 11 = OUTSIDE; set 2 0 11 = OUTSIDE
            set 3 0 29 = NO; set 3 0 12 = NO; set 2 0 19 = NO
            """);
        much.changedByNone("""
            sun -1 2 3 3 = OUTSIDE; sun 24 2 3 3 = OUTSIDE; sun MIN 2 3 3 = OUTSIDE; sun MAX 2 3 3 = OUTSIDE
            sun 1 0 3 3 = OUTSIDE; sun 1 41 3 3 = OUTSIDE; sun 1 MIN 3 3 = OUTSIDE; sun 1 MAX 3 3 = OUTSIDE
            sun 1 2 -1 3 = OUTSIDE; sun 1 2 7 3 = OUTSIDE; sun 1 2 MIN 3 = OUTSIDE; sun 1 2 MAX 3 = OUTSIDE
            sun 1 2 3 -2 = OUTSIDE; sun 1 2 3 4 = OUTSIDE; sun 1 2 3 MIN = OUTSIDE; sun 1 2 3 MAX = OUTSIDE
            storm -1 9 = OUTSIDE; storm 80 9 = OUTSIDE; storm MIN 9 = OUTSIDE; storm MAX 9 = OUTSIDE
            storm 9 -1 = OUTSIDE; storm 9 80 = OUTSIDE; storm 9 MIN = OUTSIDE; storm 9 MAX = OUTSIDE
            key -1 = OUTSIDE; key 7 = OUTSIDE; key MIN = OUTSIDE; key MAX = OUTSIDE
            burnt -1 0 0 = OUTSIDE; burnt 24 0 0 = OUTSIDE; burnt 0 -1 0 = OUTSIDE; burnt 0 7 0 = OUTSIDE
            burnt 0 0 -1 = OUTSIDE; burnt 0 0 80 = OUTSIDE; burnt MIN MIN MIN = OUTSIDE; burnt MAX MAX MAX = OUTSIDE
            """);
    }

    private static void tellingIsRefused(Scene much) {
        much.changedByNone("""
            told 9 0 = UNKNOWN; told 9 5 = UNKNOWN; told 1 -1 = OUTSIDE; told 1 5 = OUTSIDE; told 3 5 = OUTSIDE
            order -2 = NONE; order 8 = NONE; order MIN = NONE; order MAX = NONE
            dish -1 0 = UNKNOWN; dish 4 0 = UNKNOWN; dish 4 6 = UNKNOWN; dish 0 -1 = OUTSIDE; dish 0 6 = OUTSIDE
            looked -1 0 = OUTSIDE; looked 24 0 = OUTSIDE; looked 0 -1 = OUTSIDE; looked 0 7 = OUTSIDE
            count -1 = OUTSIDE; count 12 = OUTSIDE
            """);
        much.changedByNone("""
            way -1 2 0 = UNKNOWN; way 4 2 0 = UNKNOWN; way 0 9 0 = UNKNOWN; way 4 9 6 = UNKNOWN
            way 4 2 6 = UNKNOWN; way 0 9 6 = UNKNOWN; way 4 1 6 = UNKNOWN; way 4 3 0 = UNKNOWN; way 4 1 0 = UNKNOWN
            way 0 2 -1 = OUTSIDE; way 0 2 6 = OUTSIDE; way 0 1 6 = OUTSIDE; way 0 3 6 = OUTSIDE; way 0 5 6 = OUTSIDE
            way 0 1 0 = STATE; way 0 3 0 = STATE; way 0..3 6 0..5 = STATE; way 0..3 8 0..5 = STATE
            way 0 5 0..5 = NONE; way 1 2 0..5 = NONE
            """);
        much.changedByNone("""
            where -1 2 9 0 = UNKNOWN; where 4 2 9 0 = UNKNOWN; where 0 9 9 0 = UNKNOWN; where 4 9 80 3 = UNKNOWN
            where 4 2 80 3 = UNKNOWN; where 0 9 80 3 = UNKNOWN; where 4 1 9 0 = UNKNOWN; where 4 3 80 0 = UNKNOWN
            where 0 2 -1 0 = OUTSIDE; where 0 2 80 0 = OUTSIDE; where 0 2 9 -1 = OUTSIDE; where 0 2 9 3 = OUTSIDE
            where 0 1 80 0 = OUTSIDE; where 0 1 3 3 = OUTSIDE; where 0 3 80 0 = OUTSIDE; where 0 3 7 3 = OUTSIDE
            where 0 5 80 0 = OUTSIDE; where 0 5 1 3 = OUTSIDE; where 0 2 79 3 = OUTSIDE
            where 0 1 3 0 = STATE; where 0 1 79 0 = STATE; where 0 3 7 0 = STATE; where 1 6 79 2 = STATE
            where 0 5 2 0..2 = NONE; where 0 2 79 0..2 = NONE; where 0 2 3 0..2 = NONE
            """);
        much.changedByNone("""
            offer 9 0 = UNKNOWN; offer -1 0 = UNKNOWN; offer 9 2 = UNKNOWN
            offer 2 -1 = OUTSIDE; offer 2 2 = OUTSIDE; offer 1 2 = OUTSIDE; offer 3 2 = OUTSIDE
            offer 1 0 = STATE; offer 6 1 = STATE; offer 3 0 = STATE; offer 8 1 = STATE
            share 9 0 1 0 = UNKNOWN; share 2 4 1 0 = UNKNOWN; share 2 0 4 0 = UNKNOWN; share 2 -1 1 0 = UNKNOWN
            share 9 1 1 2 = UNKNOWN; share 2 4 4 0 = UNKNOWN; share 2 4 1 2 = UNKNOWN; share 1 4 1 2 = UNKNOWN
            share 2 0 4 2 = UNKNOWN; share 3 0 -1 0 = UNKNOWN; share 9 4 4 2 = UNKNOWN; share 9 0 0 0 = UNKNOWN
            share 2 0 1 -1 = OUTSIDE; share 2 0 1 2 = OUTSIDE; share 2 1 1 0 = OUTSIDE; share 2 1 1 2 = OUTSIDE
            share 1 0 1 2 = OUTSIDE; share 3 1 1 0 = OUTSIDE; share 1 1 1 1 = OUTSIDE; share 3 0 1 2 = OUTSIDE
            share 1 0 1 0 = STATE; share 6 0 1 1 = STATE; share 3 0 1 0 = STATE; share 8 0 1 1 = STATE
            """);
    }

    private static void takingAndImagesAreRefused(Scene much) {
        much.changedByNone("""
            take -1 2 = UNKNOWN; take 4 2 = UNKNOWN; take 0 9 = UNKNOWN; take 4 9 = UNKNOWN; take MIN MIN = UNKNOWN
            take 4 1 = UNKNOWN; take 4 3 = UNKNOWN; take -1 5 = UNKNOWN
            take 0 1 = STATE; take 1 6 = STATE; take 2 1 = STATE; take 0 3 = STATE; take 1 8 = STATE; take 1 1 = STATE
            take 1 3 = STATE
            take 0 5 = NO; take 1 2 = NO; take 1 4 = NO; take 0 7 = NO
            image -1 = OUTSIDE; image 2 = OUTSIDE; image MIN = OUTSIDE; image MAX = OUTSIDE
            restore -1 = OUTSIDE; restore 2 = OUTSIDE; restore MIN = OUTSIDE; restore MAX = OUTSIDE
            restore 1 = STATE
            """);
    }

    /** Not refused, but they only tell. */
    private static void tellingChangesNothing(Scene much) {
        for (String questions : QUESTIONS) {
            if (!questions.startsWith("restore") && !questions.startsWith("round")) {
                much.staysAsItWas(questions);
            }
        }
    }

    private static void newObjectRefuses(Scene nothing) {
        nothing.changedByNone("""
            pass 100 0 = OUTSIDE; point 0 0 0 = UNKNOWN; drop 0 = UNKNOWN
            stand 4 0 0 0 = UNKNOWN; stand 0 25 0 0 = OUTSIDE; set 0 0 11 = OUTSIDE; sun 0 0 0 0 = OUTSIDE
            storm 0 80 = OUTSIDE; key 7 = OUTSIDE; burnt 24 0 0 = OUTSIDE
            told 0 0 = UNKNOWN; order 0 = NONE; dish 4 0 = UNKNOWN; way 0 0 0 = UNKNOWN; where 0 0 0 0 = UNKNOWN
            offer 0 0 = UNKNOWN; share 0 0 1 0 = UNKNOWN; take 0 0 = UNKNOWN; round = 0; looked 24 0 = OUTSIDE
            count 12 = OUTSIDE; image 2 = OUTSIDE; restore 0 = STATE; restore 1 = STATE; restore 2 = OUTSIDE
            told NONE 0 = UNKNOWN; way 0 NONE 0 = UNKNOWN; take 0 NONE = UNKNOWN; drop NONE = UNKNOWN
            """);
    }

    public static void main(String[] args) {
        Scene much = new Scene(MUCH);
        passesAreRefused(much);
        dishesAndSkyAreRefused(much);
        tellingIsRefused(much);
        takingAndImagesAreRefused(much);
        tellingChangesNothing(much);
        newObjectRefuses(new Scene(NOTHING));
        System.out.println(Rows.wrong == 0 ? "refused calls answer as due and change nothing" : Rows.wrong + " faults");
        if (Rows.wrong != 0) {
            System.exit(1);
        }
    }
}
