import java.util.ArrayList;
import java.util.List;

/**
 * All promises: "A call that is refused answers one of BAD, NO, FULL, or a FINDING, of several the one that stands first
 * with it, and changes nothing (but the tape and the numbers that wait, where told)." Each refused call is made on an
 * object that has lived, and all that the object tells then is held against one on which it was not called.
 */
public final class RefusedTest {
    private static final Due due = new Due();

    /**
     * Each call with what its arguments may be, and behind ':' one that goes with any of the others. S, C, W, T: the last
     * SCENT, CLOTH, WORD, TEXT; A: all SCENTS as a set; L: the bytes of the tape; =: nothing that is looked at here.
     */
    private static final String[] BOUNDS = {
        "scent 0..5:0 0..50:7", "told 0..S:1 0..3:1", "as 0..S:1 0..5:0", "turns 0..S:1 0..5:2", "pace 0..S:1 0..50:9",
        "hide 0..S:2 0..S:3 0..1:1", "nose 0..3:1 1..999:30", "word 1..A:1", "wordOf 0..W:0", "deal 1..9:1",
        "strength 0..C:1 0..S:1", "loses 0..C:1 0..S:1", "dab 0..C:1 0..S:1 -999..999:5", "warm 0..C:1 0..50:5",
        "touch 0..C:1 0..C:2", "days 1..60:1", "smells 0..C:1 0..3:1", "says 0..C:1 0..3:1",
        "behind 0..C:1 0..3:1 0..300:1", "first 0..C:1 0..3:1 0..W:1", "lasts 0..C:1 0..3:1 0..W:1 0..200:1",
        "whispers 0..C:1 0..3:1 0..200:1", "dumb 0..C:1 0..3:1", "secret 0..C:1 0..300:1",
        "least 0..C:1 0..S:1 0..3:1 0..100:1", "letter 0..C:1 0..W:1 0..3:1 0..100:1", "dated 0..3:0 0..C:1 0..S:1 0..1:0",
        "price 0..C:1", "lie 0..C:1", "trim 0..L:0", "textTold 0..T:1 0..1:0", "why 0..2:0", "sheet 0..3:1 -1..1:0 =3",
        "mark 0..3:0 =0 =0", "pour 0..C:1 0..3:0", "copy 0..3:0 =0 0..3:0 =0 =0", "lay 0..4:0 0..3:0 =0", "ask 0..4:0 0..5:0",
        "item 0..4:1 =0", "rest 0..4:2 =5", "count 0..8:0"};

    public static void main(String[] args) {
        settings();
        for (Setting setting : Setting.values()) {
            for (String bounds : BOUNDS) {
                onEachSide(setting, bounds);
            }
        }
        scents();
        cloths();
        said();
        tape();
        texts();
        sheets();
        copies();
        slots();
        rows();
        due.end();
    }

    private static int answer(String calls, String call) {
        Run run = new Run(new ScentCloth());
        run.answers(calls);
        return run.answer(call);
    }

    /** The other tests here lean on it that each setting is what it says. */
    private static void settings() {
        for (Setting s : Setting.values()) {
            int[] many = {s.scents, s.cloths, s.words, -1, -1, s.texts, -1, s.tape};
            for (int what = 0; what < many.length; what++) {
                if (many[what] >= 0) {
                    due.is(s + ": count " + what, answer(s.calls(), "count " + what), many[what]);
                }
            }
        }
        due.is("the numbers that wait are right", answer(Setting.LIVED.calls(), "check 0 2"), 0);
        due.is("all sixty are right", answer(Setting.FULL.calls(), "check 0 30"), 0);
        due.is("those of the one day that is left are right", answer(Setting.LATE.calls(), "check 0 30"), 0);
        due.is("the last day", answer(Setting.LATE.calls(), "count 3"), 9999);
        due.is("what is on the tape is a text", answer(Setting.LIVED.calls(), "text"), 3);
        due.holds("a difference is seen", !Whole.difference("cloth", "").isEmpty());
    }

    /** A refused call that leaves all as it was. */
    private static void refused(Setting setting, String call, int want) {
        refused(setting, "", call, want, setting.calls());
    }

    /** A refused call behind some others, and the calls that make an object as it is to be then. */
    private static void refused(Setting setting, String ahead, String call, int want, String others) {
        String calls = Setting.join(setting.calls(), ahead);
        String told = setting + ": " + ahead + " " + call;
        due.is(told, answer(calls, call), want);
        String otherwise = Whole.difference(Setting.join(calls, call), others);
        due.holds(told + ": behind it " + otherwise, otherwise.isEmpty());
    }

    /** The first that is refused on each side, and the last ints; the last that is taken is not BAD. */
    private static void onEachSide(Setting setting, String bounds) {
        String[] words = bounds.split(" ");
        for (int i = 1; i < words.length; i++) {
            if (words[i].startsWith("=")) {
                continue;
            }
            String[] range = words[i].split("\\.\\.|:");
            int low = Integer.parseInt(range[0]);
            int high = setting.last(range[1]);
            for (int v : new int[] {low - 1, high + 1, Integer.MIN_VALUE, Integer.MAX_VALUE}) {
                refused(setting, callWith(words, i, v), Due.BAD);
            }
            for (int v : setting == Setting.BARE ? new int[0] : new int[] {low, high}) {
                String call = callWith(words, i, v);
                due.holds(setting + ": " + call + " is not BAD", answer(setting.calls(), call) != Due.BAD);
            }
        }
    }

    private static String callWith(String[] words, int place, int v) {
        List<String> call = new ArrayList<>();
        call.add(words[0]);
        for (int i = 1; i < words.length; i++) {
            String plain = words[i].substring(words[i].lastIndexOf(words[i].startsWith("=") ? '=' : ':') + 1);
            call.add(i == place ? String.valueOf(v) : plain);
        }
        return String.join(" ", call);
    }

    private static void scents() {
        refused(Setting.FULL, "scent 0 0", Due.FULL);
        refused(Setting.FULL, "scent 5 50", Due.FULL);
        refused(Setting.FULL, "word 1", Due.FULL);
        refused(Setting.FULL, "word 511", Due.FULL);
        refused(Setting.LIVED, "as 1 2", Due.KIND);
        refused(Setting.LIVED, "as 4 3", Due.KIND);
        refused(Setting.LIVED, "as 3 1", Due.KIND);
        refused(Setting.LIVED, "as 1 5", Due.KIND);
        refused(Setting.LIVED, "hide 1 1 1", Due.BAD);
        refused(Setting.LIVED, "hide 1 1 0", Due.BAD);
        refused(Setting.LIVED, "word 33", Due.BAD);
        refused(Setting.LIVED, "word -32", Due.BAD);
    }

    private static void cloths() {
        refused(Setting.FULL, "cloth", Due.FULL);
        refused(Setting.LIVED, "touch 1 1", Due.BAD);
        refused(Setting.FULL, "touch 0 0", Due.BAD);
    }

    /** Word 0 is SCENTS 0 and 1, of which 0 fades, and 1 does not; word 2 has more that fade. */
    private static void said() {
        refused(Setting.LIVED, "letter 0 0 3 1", Due.NO);
        refused(Setting.LIVED, "letter 1 2 3 1", Due.NO);
        refused(Setting.LIVED, "letter 0 0 3 101", Due.BAD);
        refused(Setting.LIVED, "letter 4 0 3 1", Due.BAD);
        due.is("of the other one there is a LEAST", answer(Setting.LIVED.calls(), "letter 0 3 3 1"), 999);
        refused(Setting.LIVED, "dated 3 0 0 0", Due.NOTHING);
        refused(Setting.LIVED, "dated 3 0 0 2", Due.BAD);
        refused(Setting.LIVED, "dated 3 0 5 0", Due.BAD);
        refused(Setting.LIVED, "dated 3 4 0 0", Due.BAD);
    }

    private static void tape() {
        refused(Setting.FULL, "feed 1 2 3", Due.FULL);
        String cut = Setting.join(Setting.FULL.calls(), "trim 85");
        refused(Setting.FULL, "trim 85", "feed 1 2 3", Due.FULL, cut);
        refused(Setting.FULL, "trim 85", "trim 86", Due.BAD, cut);
        due.is("84 and twelve", answer(Setting.FULL.calls() + ";trim 84", "feed 1 2 3"), 96);
    }

    /** "an act that reads it uses it up, whatever it answers" */
    private static void texts() {
        String usedUp = Setting.join(Setting.LIVED.calls(), "trim 0");
        String[] faults = {"", "fade", "fade ", "fades s", "fade s)", "fade t", "price t t", "lie 12345", "lie 1+",
            "fade " + "(".repeat(9) + "s" + ")".repeat(9), "fade " + "!".repeat(9) + "s", "fade s<p<w"};
        int[] places = {0, 4, 5, 0, 6, 5, 8, 4, 6, 13, 13, 8};
        for (int i = 0; i < faults.length; i++) {
            refused(Setting.LIVED, "tape " + faults[i], "text", -100 - places[i], usedUp);
        }
        String fullUsedUp = Setting.join(Setting.FULL.calls(), "trim 0");
        refused(Setting.FULL, "", "text", Due.FULL, fullUsedUp);
        refused(Setting.FULL, "tape fade s", "text", Due.FULL, fullUsedUp);
        refused(Setting.FULL, "tape fade s+", "text", -107, fullUsedUp);
        refused(Setting.FULL, "tape lie s", "text", -104, fullUsedUp);
        refused(Setting.BARE, "", "text", -100, "");
    }

    private static void sheets() {
        refused(Setting.LIVED, "sheet 0 0 -1", Due.SIZE);
        refused(Setting.LIVED, "sheet 1 1 MIN", Due.SIZE);
        refused(Setting.LIVED, "sheet 3 0 -1", Due.SIZE);
        refused(Setting.LIVED, "sheet 0 0 25", Due.BAD);
        refused(Setting.LIVED, "sheet 3 1 MAX", Due.BAD);
        refused(Setting.LIVED, "sheet 4 0 -1", Due.BAD);
        refused(Setting.LIVED, "sheet 0 2 -1", Due.BAD);
        refused(Setting.LIVED, "sheet 0 -2 -1", Due.BAD);
        refused(Setting.LIVED, "mark 4 -1 NONE", Due.BAD);
        refused(Setting.LIVED, "mark 3 -1 NONE", Due.NOTHING);
        refused(Setting.LIVED, "mark 3 0 0", Due.NOTHING);
        refused(Setting.LIVED, "mark 0 5 NONE", Due.INDEX);
        refused(Setting.LIVED, "mark 0 -1 NONE", Due.INDEX);
        refused(Setting.LIVED, "mark 0 MAX 1", Due.INDEX);
        refused(Setting.LIVED, "mark 0 MIN 1", Due.INDEX);
        refused(Setting.LIVED, "mark 2 0 1", Due.INDEX);
        refused(Setting.LIVED, "mark 1 6 100000", Due.INDEX);
        refused(Setting.FULL, "mark 1 24 100000", Due.INDEX);
        refused(Setting.LIVED, "mark 0 0 NONE", Due.KIND);
        refused(Setting.LIVED, "mark 0 4 NONE", Due.KIND);
        for (String v : "100000 -100000 MIN MAX BAD NO FULL -1000000004 -1000000006".split(" ")) {
            refused(Setting.LIVED, "mark 1 1 " + v, Due.BAD);
        }
        refused(Setting.LIVED, "pour 0 3", Due.NOTHING);
        refused(Setting.LIVED, "pour 4 3", Due.BAD);
    }

    private static void copies() {
        refused(Setting.LIVED, "copy 3 -1 4 0 0", Due.BAD);
        refused(Setting.LIVED, "copy 4 -1 3 0 0", Due.BAD);
        refused(Setting.LIVED, "copy 3 -1 0 0 -1", Due.NOTHING);
        refused(Setting.LIVED, "copy 0 -1 3 0 -1", Due.NOTHING);
        refused(Setting.LIVED, "copy 3 0 3 0 0", Due.NOTHING);
        refused(Setting.LIVED, "copy 0 -1 1 0 1", Due.KIND);
        refused(Setting.LIVED, "copy 1 0 0 0 -1", Due.KIND);
        refused(Setting.LIVED, "copy 0 0 2 0 0", Due.KIND);
        String[] noPlaces = {"copy 0 0 0 1 5", "copy 0 1 0 0 5", "copy 0 -1 0 0 1", "copy 0 0 0 -1 1", "copy 0 0 0 0 -1",
            "copy 0 0 0 0 6", "copy 0 6 0 0 0", "copy 0 0 0 6 0", "copy 0 -1 0 0 0", "copy 0 0 0 -1 0", "copy 1 0 2 0 1",
            "copy 2 0 1 0 1", "copy 0 1 0 1 MAX", "copy 0 MAX 0 0 1", "copy 0 0 0 MAX 1", "copy 0 0 0 0 MIN",
            "copy 0 MAX 0 0 MAX", "copy 0 5 0 5 MIN", "copy 0 MIN 0 0 MIN"};
        for (String call : noPlaces) {
            refused(Setting.LIVED, call, Due.INDEX);
        }
    }

    /** Slot 0 holds an AMBER, 1 a row of 6 floats, 2 a number, 3 a row without places, 4 nothing. */
    private static void slots() {
        refused(Setting.LIVED, "lay 0 2 3", Due.NOTHING);
        refused(Setting.LIVED, "lay 4 2 3", Due.NOTHING);
        refused(Setting.LIVED, "lay 5 2 3", Due.BAD);
        for (String k : "lay 1 1 5;lay 1 1 -1;lay 1 1 MAX;lay 0 2 4;lay 0 2 -1;lay 0 2 MIN".split(";")) {
            refused(Setting.LIVED, k, Due.BAD);
        }
        refused(Setting.FULL, "lay 1 1 9", Due.BAD);
        refused(Setting.BARE, "lay 0 1 0", Due.BAD);
        refused(Setting.LIVED, "ask 4 0", Due.NOTHING);
        refused(Setting.LIVED, "ask 4 6", Due.BAD);
        refused(Setting.LIVED, "ask 0 2", Due.KIND);
        refused(Setting.LIVED, "ask 1 0", Due.KIND);
        refused(Setting.LIVED, "ask 2 0", Due.KIND);
        refused(Setting.LIVED, "ask 2 6", Due.BAD);
        refused(Setting.LIVED, "item 5 -1", Due.BAD);
        refused(Setting.LIVED, "item 4 -1", Due.NOTHING);
        refused(Setting.LIVED, "item 0 -1", Due.KIND);
        refused(Setting.LIVED, "item 2 0", Due.KIND);
        for (String place : "item 1 6;item 1 -1;item 1 MIN;item 1 MAX;item 3 0".split(";")) {
            refused(Setting.LIVED, place, Due.INDEX);
        }
        refused(Setting.FULL, "item 1 24", Due.INDEX);
        refused(Setting.LIVED, "item 1 0", Due.KIND);
        refused(Setting.LIVED, "rest 5 0", Due.BAD);
        refused(Setting.LIVED, "rest 4 0", Due.NOTHING);
        refused(Setting.LIVED, "rest 0 0", Due.KIND);
        refused(Setting.LIVED, "rest 1 0", Due.KIND);
        refused(Setting.LIVED, "rest 2 0", Due.NO);
    }

    /** "The numbers that wait (none do then, whatever is answered)": the image of LIVED has CLOTHS 0 .. 2. */
    private static void rows() {
        refused(Setting.FULL, "tell 0", Due.FULL);
        refused(Setting.BARE, "back", Due.NO);
        refused(Setting.BARE, "cloth; tell 99", "check 0 1", Due.NO, "cloth");
        refused(Setting.BARE, "tell 99", "check 0 0", Due.BAD, "");
        refused(Setting.BARE, "tell 99", "check 6 1", Due.BAD, "");
        String noneWait = Setting.LIVED.callsWithout("tell");
        for (String call : "check 3 2;check 4 2;check 5 30".split(";")) {
            refused(Setting.LIVED, "", call, Due.NO, noneWait);
        }
        String[] bad = {"check 0 0", "check 0 31", "check 0 -1", "check 0 MIN", "check 0 MAX", "check -1 2", "check 6 2",
            "check MIN 2", "check MAX 2", "check 3 0", "check 5 31", "check 6 31"};
        for (String call : bad) {
            refused(Setting.LIVED, "", call, Due.BAD, noneWait);
        }
        refused(Setting.FULL, "", "check 0 31", Due.BAD, Setting.FULL.callsWithout("tell"));
    }
}
