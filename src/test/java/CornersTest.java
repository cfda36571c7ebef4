import java.util.ArrayList;
import java.util.List;

/**
 * All promises: each call with its arguments at their edges, every one with every other (just outside, the last on each
 * side, just outside again), answered by ScentCloth and by Model; behind a call that is taken the things are the same.
 */
public final class CornersTest {
    /** S, C, W, T, A, L as in RefusedTest; a list stands for itself. */
    private static final String[] EDGES = {
        "scent 0..5 0..50", "told 0..S 0..3", "as 0..S 0..5", "turns 0..S 0..5", "pace 0..S 0..50", "hide 0..S 0..S 0..1",
        "nose 0..3 1..999", "word 1..A", "wordOf 0..W", "deal 1..9", "seed MIN,-1,0,MAX", "cloth", "strength 0..C 0..S",
        "loses 0..C 0..S", "dab 0..C 0..S -999..999", "warm 0..C 0..50", "touch 0..C 0..C", "days 1..60", "smells 0..C 0..3",
        "says 0..C 0..3", "behind 0..C 0..3 0..300", "first 0..C 0..3 0..W", "lasts 0..C 0..3 0..W 0..200",
        "whispers 0..C 0..3 0..200", "dumb 0..C 0..3", "secret 0..C 0..300", "least 0..C 0..S 0..3 0..100",
        "letter 0..C 0..W 0..3 0..100", "letter 0..C 0..W 0..3 1,2", "dated 0..3 0..C 0..S 0..1", "price 0..C", "lie 0..C",
        "feed MIN 0 MAX", "trim 0..L", "text", "textTold 0..T 0..1", "why 0..2", "sheet 0..3 -1..1 -1,0,24,25",
        "mark 0..3 -1,0,4,5,23,24 NONE,-100000,-99999,99999,100000,-32769,-32768,32767,32768", "pour 0..C 0..3",
        "copy 0..3 -1,0,5,6 0..3 -1,0,5,6 -1,0,1,5,6", "copy 0,1,2 0,1,24,25 0,1,2 0,1,24,25 0,1,23,24,25",
        "lay 0..4 0..3 -1,0,3,4,8,9", "ask 0..4 0..5", "item 0..4 -1,0,5,6,23,24", "rest 0..4 MIN,-1,0,1,MAX", "tell MIN,99",
        "check 0..5 1..30", "check 0,1 1,2", "keep", "back", "count 0..8"};
    private static final String LOOK = "count 0; count 1; count 2; count 3; count 4; count 5; count 6; count 7; count 8; why 0;"
        + "told 0 0; told 1 1; told 4 3; wordOf 0; nose 0 5; nose 3 5; strength 0 0; strength 0 2; strength 3 4; price 0; lie 0";

    private static int asked;
    private static int wrong;

    private CornersTest() {
    }

    public static void main(String[] args) {
        for (Setting setting : Setting.values()) {
            for (String edges : EDGES) {
                for (String call : corners(setting, edges)) {
                    holdAgainstModel(setting, call);
                }
            }
        }
        System.out.println(asked + " calls, " + wrong + " not as due");
        if (wrong != 0) {
            System.exit(1);
        }
    }

    private static List<String> corners(Setting setting, String edges) {
        List<String> calls = List.of("");
        for (String word : edges.split(" ")) {
            List<String> longer = new ArrayList<>();
            for (String call : calls) {
                for (String v : values(setting, word)) {
                    longer.add(call.isEmpty() ? v : call + " " + v);
                }
            }
            calls = longer;
        }
        return calls;
    }

    private static String[] values(Setting setting, String word) {
        if (!word.contains("..")) {
            return word.split(",");
        }
        String[] range = word.split("\\.\\.");
        int low = Integer.parseInt(range[0]);
        int high = setting.last(range[1]);
        return new String[] {"" + (low - 1), "" + low, "" + high, "" + (high + 1)};
    }

    private static void holdAgainstModel(Setting setting, String call) {
        Run is = new Run(new ScentCloth());
        Run due = new Run(new Model());
        is.answers(setting.calls());
        due.answers(setting.calls());
        int got = is.answer(call);
        int want = due.answer(call);
        asked++;
        if (got != want) {
            report(setting + ": " + call + " answered " + got + ", due is " + want);
        } else if (!is.answers(LOOK).equals(due.answers(LOOK))) {
            report(setting + ": " + call + " left other things behind it than are due");
        }
    }

    private static void report(String line) {
        wrong++;
        if (wrong <= 40) {
            System.out.println(line);
        }
    }
}
