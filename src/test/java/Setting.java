import java.util.ArrayList;
import java.util.Arrays;
import java.util.List;

/** What a test begins with: a row of calls on a new object, and how many of each thing there are then. */
enum Setting {
    BARE(0, 0, 0, 0, 0) {
        @Override
        String makeCalls() {
            return "";
        }
    },

    /** Some of everything, and an image in which all is otherwise; 4 numbers wait that are right for check(0, 2). */
    LIVED(5, 4, 5, 3, 9) {
        @Override
        String makeCalls() {
            return join(YOUTH, "keep", AGE, SHELF, "tell 0; tell 71; tell 0; tell 67", TAPE);
        }
    },

    /** No room anywhere: of everything as many as there can be; 60 numbers wait that are right for check(0, 30). */
    FULL(9, 6, 12, 14, 96) {
        @Override
        String makeCalls() {
            String ahead = join(CROWD, CROWDED_SHELF, CROWD_OF_TEXTS, "keep");
            return join(ahead, "tape price n-t; text; dab 0 0 -5; warm 2 50; turns 8 5; seed 5", told(ahead, 30),
                "lay 0 1 8; lay 1 2 0; lay 2 3 MIN; lay 3 2 1; lay 4 1 3", "tape lie d" + "+d".repeat(45) + " ");
        }
    },

    /** The last day, by an image of the day ahead of it; 2 numbers wait that are right for check(0, 1). */
    LATE(5, 4, 5, 3, 9) {
        @Override
        String makeCalls() {
            String ahead = join(YOUTH, "days 60;".repeat(166), "days 37; dab 0 0 60; dab 0 2 90; dab 0 3 70; keep");
            return join(ahead, AGE_WITHOUT_DAYS, "days 60", SHELF, told(ahead, 30), TAPE);
        }
    };

    private static final String YOUTH = "seed 77; scent 0 0; scent 3 20; scent 4 2; scent 5 30; hide 0 2 1;"
        + "cloth; cloth; cloth; warm 1 7; dab 0 0 40; dab 0 1 30; dab 0 2 15; dab 1 3 500; dab 1 0 999; dab 2 1 9;"
        + "nose 1 25; nose 3 999; word 3; word 1; word 15; word 2; tape fade 1; text; tape price t*2+n; text; days 1";
    private static final String AGE_WITHOUT_DAYS = "scent 1 50; cloth; word 4; tape lie d*100+n; text; turns 0 2;"
        + "pace 1 21; hide 1 0 1; hide 0 2 0; nose 2 12; warm 0 5; warm 3 50; dab 0 4 77; dab 3 2 300; seed -5";
    private static final String AGE = join(AGE_WITHOUT_DAYS, "days 3");
    private static final String SHELF = "sheet 0 0 5; mark 0 0 -3; mark 0 4 1200; sheet 1 1 6; mark 1 0 NONE;"
        + "mark 1 1 99999; mark 1 5 -7; sheet 2 1 0; lay 0 1 1; lay 1 2 1; lay 2 3 -17; lay 3 2 2";
    private static final String TAPE = "tape lie d-n/2";

    private static final String CROWD = "seed MIN; scent 0 0; scent 1 10; scent 2 1; scent 3 20; scent 4 0; scent 5 30;"
        + "scent 0 2; scent 1 50; scent 3 50;" + "cloth;".repeat(6) + "warm 0 50; warm 5 1; nose 0 1; nose 1 50;"
        + "nose 3 999; word 511; word 1; word 2; word 4; word 8; word 16; word 32; word 64; word 128; word 256; word 3;"
        + "word 494; hide 0 8 1; hide 8 0 1; hide 3 4 1";
    private static final String CROWDED_SHELF = "sheet 0 0 24; mark 0 0 900; mark 0 1 30; mark 0 2 31; mark 0 3 400;"
        + "mark 0 4 5; mark 0 5 999; mark 0 6 1; mark 0 8 450; mark 0 23 -32768; sheet 1 1 24; mark 1 0 NONE;"
        + "mark 1 4 700; mark 1 8 -99999; mark 1 23 99999; sheet 2 0 24; sheet 3 1 24; mark 3 7 7;"
        + "pour 0 0; pour 5 0; pour 3 1";
    private static final String CROWD_OF_TEXTS = "tape fade 1; text;" + "tape lie d; text; tape price t; text;".repeat(5)
        + "tape price 3+t; text; tape lie d-n; text";

    final int scents;
    final int cloths;
    final int words;
    final int texts;
    final int tape;
    private String calls;

    Setting(int scents, int cloths, int words, int texts, int tape) {
        this.scents = scents;
        this.cloths = cloths;
        this.words = words;
        this.texts = texts;
        this.tape = tape;
    }

    abstract String makeCalls();

    String calls() {
        if (calls == null) {
            calls = makeCalls();
        }
        return calls;
    }

    /** A bound as a number: S, C, W, T the last SCENT, CLOTH, WORD, TEXT; A all SCENTS as a set; L the tape's bytes. */
    int last(String bound) {
        return switch (bound) {
            case "S" -> scents - 1;
            case "C" -> cloths - 1;
            case "W" -> words - 1;
            case "T" -> texts - 1;
            case "A" -> (1 << scents) - 1;
            case "L" -> tape;
            default -> Integer.parseInt(bound);
        };
    }

    /** The same without its calls of one name: what it would be like if none of them had been made. */
    String callsWithout(String name) {
        List<String> left = new ArrayList<>();
        for (String call : calls().split(";")) {
            if (!(call.strip() + " ").startsWith(name + " ")) {
                left.add(call);
            }
        }
        return String.join(";", left);
    }

    static String join(String... rows) {
        return String.join(";", Arrays.asList(rows));
    }

    /** The calls that tell the days of cloth 0 rightly, by an image that is kept last in these calls. */
    private static String told(String calls, int days) {
        Model model = new Model();
        new Run(model).answers(calls);
        StringBuilder tells = new StringBuilder();
        for (int v : model.daysTold(0, days)) {
            tells.append("tell ").append(v).append(';');
        }
        return tells.toString();
    }
}
