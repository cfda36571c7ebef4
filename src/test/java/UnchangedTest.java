/**
 * What is taken and yet changes nothing, or nothing but what is told: calls that only tell or think, that put a thing to
 * what it is already, that find no room or no day left; and what an image keeps. Told by all that an object can tell.
 */
public final class UnchangedTest {
    private static final Due due = new Due();

    public static void main(String[] args) {
        tells();
        thoughts();
        asItIsAlready();
        nothingLeft();
        keepTouchesNothing();
        backIsTheImage();
        againAndAgain();
        imageOfNothing();
        due.end();
    }

    private static void changesNothing(Setting setting, String call) {
        same(setting + ": " + call, Setting.join(setting.calls(), call), setting.calls());
    }

    private static void same(String told, String calls, String others) {
        String otherwise = Whole.difference(calls, others);
        due.holds(told + ": " + otherwise, otherwise.isEmpty());
    }

    private static void tells() {
        String[] calls = {"told 0 0", "told 4 3", "as 1 3", "wordOf 4", "strength 3 4", "loses 0 0", "loses 3 4", "smells 0 0",
            "says 3 3", "price 0", "lie 0", "textTold 2 1", "why 0", "why 2", "count 0", "count 8"};
        for (String call : calls) {
            changesNothing(Setting.LIVED, call);
            changesNothing(Setting.FULL, call);
        }
        for (String call : "ask 0 3;item 1 5;rest 2 4".split(";")) {
            changesNothing(Setting.LIVED, call);
        }
        changesNothing(Setting.BARE, "why 0");
    }

    /** "(All this is only thought, from now on, without the bound of THE DAY: nothing changes but where told.)" */
    private static void thoughts() {
        String[] calls = {"behind 0 0 0", "behind 0 0 300", "first 0 0 0", "first 1 0 3", "lasts 0 0 0 200", "lasts 1 1 2 0",
            "whispers 0 0 200", "dumb 0 0", "dumb 1 2", "secret 0 300", "secret 3 0", "least 0 0 0 100", "least 1 3 3 100",
            "dated 0 0 0 0", "dated 1 0 2 1"};
        for (String call : calls) {
            changesNothing(Setting.LIVED, call);
            changesNothing(Setting.FULL, call);
            changesNothing(Setting.LATE, call);
        }
    }

    private static void asItIsAlready() {
        String[] calls = {"turns 1 3", "turns 0 2", "pace 1 21", "hide 1 0 1", "hide 0 2 0", "nose 2 12", "warm 0 5", "seed -5",
            "dab 0 0 0", "dab 0 3 -999", "dab 0 3 0", "trim 9", "copy 0 0 0 0 5", "copy 1 3 1 3 3", "copy 1 6 1 0 0", "copy 2 0 2 0 0",
            "mark 0 4 1200", "mark 0 4 66736", "mark 1 0 NONE", "sheet 3 -1 9", "sheet 2 1 0", "lay 1 2 1", "lay 2 3 -17",
            "lay 4 0 7", "pour 0 2"};
        for (String call : calls) {
            changesNothing(Setting.LIVED, call);
        }
        changesNothing(Setting.FULL, "touch 1 2");
    }

    /** "as many as there is room for (no draws for others)", "no more than up to 9999" */
    private static void nothingLeft() {
        changesNothing(Setting.FULL, "deal 1");
        changesNothing(Setting.FULL, "deal 9");
        changesNothing(Setting.LATE, "days 1");
        changesNothing(Setting.LATE, "days 60");
    }

    private static void keepTouchesNothing() {
        for (Setting s : Setting.values()) {
            String kept = Setting.join(s.calls(), "keep");
            String world = Whole.worldDifference(kept, s.calls());
            due.holds(s + ": all is as it was behind keep: " + world, world.isEmpty());
            String rest = Whole.restDifference(kept, s.calls());
            due.holds(s + ": sheets, slots, numbers, tape behind keep: " + rest, rest.isEmpty());
        }
    }

    /** "AN IMAGE keeps all but SHEETS, SLOTS, numbers that wait, THE TAPE" */
    private static void backIsTheImage() {
        String changes = "turns 0 4; pace 0 33; hide 0 1 1; hide 3 4 0; nose 0 77; nose 3 5; word 2; deal 9; seed 123; cloth;"
            + "dab 0 0 7; dab 1 1 -9; warm 0 44; warm 1 0; touch 0 1; days 9; letter 1 0 0 0; tape fade s; text; tape lie 5; text;"
            + "tape price 6; text; sheet 0 1 3; mark 0 1 8; sheet 2 0 2; mark 2 0 9; sheet 1 -1 0; lay 0 3 5; lay 2 2 0; lay 4 1 0;"
            + "check 0 1; tell 5; tape lie 8";
        for (Setting s : new Setting[] {Setting.LIVED, Setting.FULL, Setting.LATE}) {
            String changed = Setting.join(s.calls(), "keep", changes);
            String back = Setting.join(changed, "back");
            due.holds(s + ": much is otherwise", !Whole.worldDifference(changed, s.calls()).isEmpty());
            String world = Whole.worldDifference(back, s.calls());
            due.holds(s + ": all is as it was kept: " + world, world.isEmpty());
            String rest = Whole.restDifference(back, changed);
            due.holds(s + ": sheets, slots, numbers, tape are not: " + rest, rest.isEmpty());
        }
    }

    /** "all can become as it is (again and again)" */
    private static void againAndAgain() {
        String away = "dab 0 0 50; days 2; word 1; cloth; tape fade s; text; trim 0; back;";
        for (Setting s : new Setting[] {Setting.LIVED, Setting.FULL}) {
            String once = Setting.join(s.calls(), "trim 0; back");
            same(s + ": back, time after time", Setting.join(once, away.repeat(3)), once);
            same(s + ": keep of what came back", Setting.join(once, "keep"), once);
        }
    }

    /** An image of a new object is one, too: all is gone behind it, and what comes then is as it is at first. */
    private static void imageOfNothing() {
        String grown = Setting.LIVED.callsWithout("keep");
        String cleared = "check 0 0; trim 0; sheet 0 -1 0; sheet 1 -1 0; sheet 2 -1 0; lay 0 0 0; lay 1 0 0; lay 2 0 0; lay 3 0 0";
        same("back to nothing", Setting.join("keep", grown, "back", cleared), "keep");
        String anew = "deal 9; cloth; cloth; cloth; cloth; cloth; cloth; word 511";
        same("what comes then", Setting.join("keep", grown, "back", cleared, anew), Setting.join("keep", anew));
    }
}
