/** Promises 13 to 19: cloths. */
public final class ClothsTest {
    private static final Due due = new Due();

    public static void main(String[] args) {
        cloth();
        strength();
        losesWithoutText();
        losesAtTheEdges();
        losesByText();
        dab();
        warm();
        touch();
        days();
        lastDay();
        fullHouse();
        laterScents();
        losesCut();
        losesHeld();
        halves();
        lightAtMost();
        lemonAtMost();
        muskByDay();
        dabHeld();
        touchHalves();
        muskOnTheLastDays();
        due.end();
    }

    private static void cloth() {
        ScentCloth x = new ScentCloth();
        for (int i = 0; i < 6; i++) {
            due.is("cloth " + i, x.cloth(), i);
        }
        due.is("a seventh", x.cloth(), Due.FULL);
        due.is("six", x.count(1), 6);
        due.is("not warm at first", x.warm(5, 1), 0);
    }

    private static void strength() {
        ScentCloth x = new ScentCloth();
        x.cloth();
        due.is("no scent yet", x.strength(0, 0), Due.BAD);
        x.scent(0, 0);
        due.is("0 of a scent that came later", x.strength(0, 0), 0);
        x.dab(0, 0, 7);
        due.is("strength(0, 0)", x.strength(0, 0), 7);
        due.is("strength(0, 1)", x.strength(0, 1), Due.BAD);
        due.is("strength(1, 0)", x.strength(1, 0), Due.BAD);
        due.is("strength(-1, 0)", x.strength(-1, 0), Due.BAD);
        due.is("strength(0, -1)", x.strength(0, -1), Due.BAD);
    }

    /** Strength 250, pace 13, warm 10: 250 * 23 / 100 + 1 = 58. */
    private static void losesWithoutText() {
        ScentCloth x = new ScentCloth();
        x.cloth();
        x.warm(0, 10);
        int[] even = {58, 29, 71, 28, 142, 0};
        for (int kind = 0; kind < 6; kind++) {
            x.scent(kind, 13);
            x.dab(0, kind, 250);
            due.is("loses on an even day, kind " + kind, x.loses(0, kind), even[kind]);
        }
        x.days(1);
        for (int kind = 0; kind < 6; kind++) {
            due.is("left of kind " + kind, x.strength(0, kind), 250 - even[kind]);
        }
        due.is("musk on an odd day", x.loses(0, 5), 58);
        due.is("loses(0, 6)", x.loses(0, 6), Due.BAD);
        due.is("loses(1, 0)", x.loses(1, 0), Due.BAD);
        due.is("loses(-1, 0)", x.loses(-1, 0), Due.BAD);
        due.is("loses(0, -1)", x.loses(0, -1), Due.BAD);
    }

    private static void losesAtTheEdges() {
        ScentCloth x = new ScentCloth();
        x.cloth();
        x.cloth();
        for (int kind = 0; kind < 6; kind++) {
            x.scent(kind, 50);
            due.is("nothing to lose, kind " + kind, x.loses(0, kind), 0);
            x.dab(0, kind, 1);
            x.dab(1, kind, 999);
        }
        x.warm(1, 50);
        int[] ofOne = {1, 0, 1, 0, 1, 0};
        int[] ofAll = {999, 499, 999, 498, 999, 0};
        for (int kind = 0; kind < 6; kind++) {
            due.is("of strength 1, kind " + kind, x.loses(0, kind), ofOne[kind]);
            due.is("of strength 999 at 100 of 100, kind " + kind, x.loses(1, kind), ofAll[kind]);
        }
    }

    private static void losesByText() {
        ScentCloth x = new ScentCloth();
        x.cloth();
        for (int kind = 0; kind < 6; kind++) {
            x.scent(kind, 7);
            x.dab(0, kind, 100);
        }
        x.warm(0, 3);
        due.is("text", Due.read(x, "fade s/10+p*w"), 0);
        int[] lost = {31, 15, 38, 14, 76, 0};
        for (int kind = 0; kind < 6; kind++) {
            due.is("by text, kind " + kind, x.loses(0, kind), lost[kind]);
        }
        Due.read(x, "fade 0-5");
        int[] none = {0, 0, 7, 0, 14, 0};
        for (int kind = 0; kind < 6; kind++) {
            due.is("a text below 0, kind " + kind, x.loses(0, kind), none[kind]);
        }
        Due.read(x, "fade 9999");
        int[] most = {100, 50, 100, 49, 100, 0};
        for (int kind = 0; kind < 6; kind++) {
            due.is("a text above strength, kind " + kind, x.loses(0, kind), most[kind]);
        }
    }

    private static void dab() {
        ScentCloth x = new ScentCloth();
        x.cloth();
        x.scent(0, 0);
        due.is("dab(0, 0, 999)", x.dab(0, 0, 999), 999);
        due.is("no more than 999", x.dab(0, 0, 1), 999);
        due.is("dab(0, 0, -998)", x.dab(0, 0, -998), 1);
        due.is("no less than 0", x.dab(0, 0, -2), 0);
        due.is("dab(0, 0, 0)", x.dab(0, 0, 0), 0);
        due.is("dab(0, 0, -999)", x.dab(0, 0, -999), 0);
        due.is("dab(0, 0, 1000)", x.dab(0, 0, 1000), Due.BAD);
        due.is("dab(0, 0, -1000)", x.dab(0, 0, -1000), Due.BAD);
        due.is("dab(0, 1, 1)", x.dab(0, 1, 1), Due.BAD);
        due.is("dab(1, 0, 1)", x.dab(1, 0, 1), Due.BAD);
        due.is("dab(-1, 0, 1)", x.dab(-1, 0, 1), Due.BAD);
        due.is("dab(0, -1, 1)", x.dab(0, -1, 1), Due.BAD);
        due.is("stays", x.strength(0, 0), 0);
    }

    private static void warm() {
        ScentCloth x = new ScentCloth();
        x.cloth();
        due.is("warm(0, 50)", x.warm(0, 50), 0);
        due.is("warm(0, 0)", x.warm(0, 0), 50);
        due.is("warm(0, 51)", x.warm(0, 51), Due.BAD);
        due.is("warm(0, -1)", x.warm(0, -1), Due.BAD);
        due.is("warm(1, 0)", x.warm(1, 0), Due.BAD);
        due.is("warm(-1, 0)", x.warm(-1, 0), Due.BAD);
        due.is("stays", x.warm(0, 1), 0);
    }

    private static void touch() {
        ScentCloth x = new ScentCloth();
        x.cloth();
        x.cloth();
        x.cloth();
        for (int i = 0; i < 4; i++) {
            x.scent(0, 0);
        }
        x.dab(0, 0, 10);
        x.dab(1, 0, 11);
        x.dab(0, 1, 10);
        x.dab(1, 1, 10);
        x.dab(1, 2, 999);
        x.dab(0, 3, 998);
        x.dab(1, 3, 999);
        x.dab(2, 0, 5);
        due.is("touch(0, 1)", x.touch(0, 1), 1 + 0 + 2 + 1);
        int[] half = {10, 10, 499, 998};
        for (int s = 0; s < 4; s++) {
            due.is("one's " + s, x.strength(0, s), half[s]);
            due.is("the other's " + s, x.strength(1, s), half[s]);
        }
        due.is("a third one stays", x.strength(2, 0), 5);
        due.is("again: nothing", x.touch(1, 0), 0);
        due.is("itself", x.touch(1, 1), Due.BAD);
        due.is("touch(0, 3)", x.touch(0, 3), Due.BAD);
        due.is("touch(3, 0)", x.touch(3, 0), Due.BAD);
        due.is("touch(-1, 0)", x.touch(-1, 0), Due.BAD);
        due.is("touch(0, -1)", x.touch(0, -1), Due.BAD);
    }

    private static void days() {
        ScentCloth x = new ScentCloth();
        x.cloth();
        x.cloth();
        x.scent(0, 10);
        x.scent(5, 10);
        x.warm(1, 40);
        for (int c = 0; c < 2; c++) {
            x.dab(c, 0, 100);
            x.dab(c, 1, 100);
        }
        due.is("days(3)", x.days(3), 3);
        due.is("100, 89, 80, 71", x.strength(0, 0), 71);
        due.is("warm: 100, 49, 24, 11", x.strength(1, 0), 11);
        due.is("musk fades on day 1 alone", x.strength(0, 1), 89);
        due.is("warm musk", x.strength(1, 1), 49);
        due.is("days(0)", x.days(0), Due.BAD);
        due.is("days(61)", x.days(61), Due.BAD);
        due.is("days(-1)", x.days(-1), Due.BAD);
        due.is("the day stays", x.count(3), 3);
        due.is("days(60)", x.days(60), 63);
    }

    private static void lastDay() {
        ScentCloth x = new ScentCloth();
        x.cloth();
        x.scent(0, 0);
        for (int i = 0; i < 166; i++) {
            x.days(60);
        }
        due.is("day 9960", x.count(3), 9960);
        x.dab(0, 0, 999);
        due.is("no further than 9999", x.days(60), 9999);
        due.is("39 days lost", x.strength(0, 0), 960);
        due.is("no more days", x.days(1), 9999);
        due.is("nothing lost", x.strength(0, 0), 960);
        due.is("thought goes on", x.dumb(0, 0), Due.NONE);
        x.dab(0, 0, -930);
        due.is("thought goes beyond the last day", x.dumb(0, 0), 21);
    }

    /** Every row filled to its last place: 9 scents, 6 cloths, 12 words, 24 places, 96 bytes. */
    private static void fullHouse() {
        ScentCloth x = new ScentCloth();
        for (int s = 0; s < 9; s++) {
            x.scent(0, 0);
        }
        for (int w = 0; w < 12; w++) {
            x.word(w == 11 ? 511 : 1 + w);
        }
        for (int c = 0; c < 6; c++) {
            x.cloth();
            for (int s = 0; s < 9; s++) {
                x.dab(c, s, 100 + c);
            }
        }
        x.sheet(3, 1, 24);
        Due.read(x, "fade 1" + "+0".repeat(45));
        due.is("all strengths", x.count(4), 9 * 615);
        due.is("smells of all", x.smells(5, 3), 511);
        due.is("says the last word", x.says(5, 3), 11);
        due.is("one each a day", x.days(5), 5);
        due.is("all strengths then", x.count(4), 9 * 585);
        due.is("touch", x.touch(5, 3), 18);
        due.is("behind", x.behind(5, 0, 89), 11);
        due.is("behind, one day more", x.behind(5, 0, 90), Due.NONE);
        due.is("first", x.first(5, 0, 11), 0);
        due.is("lasts", x.lasts(5, 0, 11, 200), 90);
        due.is("whispers", x.whispers(5, 0, 200), 1);
        due.is("dumb", x.dumb(5, 0), 90);
        due.is("secret", x.secret(5, 89), 0);
        due.is("dated", x.dated(3, 5, 8, 0), 99);
        due.is("letter", x.letter(5, 11, 0, 100), 9 * 110);
        due.is("pour", x.pour(5, 3), 9);
        due.is("price", x.price(4), 9 * 99);
        Due.read(x, "price n");
        due.is("price by how many", x.price(4), 9);
        due.is("keep", x.keep(), 6);
        due.is("check", x.check(5, 30), 1);
        due.is("back", x.back(), 6);
    }

    /** "of each SCENT a STRENGTH 0 .. 999 (0 at first; of SCENTS that come later, too)" */
    private static void laterScents() {
        ScentCloth x = new ScentCloth();
        x.cloth();
        x.keep();
        for (int again = 0; again < 2; again++) {
            for (int s = 0; s < 9; s++) {
                due.is("not there yet: " + s, x.strength(0, s), Due.BAD);
                x.scent(0, 0);
                due.is("0 at first: " + s, x.strength(0, s), 0);
                x.dab(0, s, 900);
            }
            x.cloth();
            due.is("0 on a later cloth", x.strength(1, 8), 0);
            due.is("which is not warm", x.warm(1, 50), 0);
            x.dab(1, 8, 5);
            x.back();
        }
    }

    private static ScentCloth spot(int kind, int pace, int warm, int strength) {
        ScentCloth x = new ScentCloth();
        x.cloth();
        x.scent(kind, pace);
        x.warm(0, warm);
        x.dab(0, 0, strength);
        return x;
    }

    /** "STRENGTH times PACE and WARM together, by 100 (cut), and 1; STRENGTH at most" */
    private static void losesCut() {
        int[][] rows = {{0, 50, 50, 0}, {1, 0, 0, 1}, {1, 50, 50, 1}, {2, 50, 0, 2}, {2, 49, 0, 1}, {3, 50, 0, 2}, {99, 1, 0, 1},
            {100, 1, 0, 2}, {100, 0, 1, 2}, {199, 0, 1, 2}, {200, 0, 1, 3}, {100, 50, 49, 100}, {101, 50, 49, 100},
            {998, 50, 50, 998}, {999, 50, 50, 999}, {999, 50, 49, 990}, {999, 0, 0, 1}};
        for (int[] r : rows) {
            String told = "STRENGTH " + r[0] + ", PACE " + r[1] + ", WARM " + r[2];
            ScentCloth x = spot(0, r[1], r[2], r[0]);
            due.is(told, x.loses(0, 0), r[3]);
            x.days(1);
            due.is(told + ", left", x.strength(0, 0), r[0] - r[3]);
        }
    }

    /** "SCENT: what fade gives, held within 0 .. STRENGTH" */
    private static void losesHeld() {
        String[] texts = {"fade 0-1", "fade 0", "fade 1", "fade s-1", "fade s", "fade s+1", "fade 2048*1024*1024-1",
            "fade 2048*1024*1024", "fade 9999*9999*9999", "fade 9999*9999*43"};
        int[] plain = {0, 0, 1, 99, 100, 100, 100, 0, 0, 100};
        int[] light = {7, 7, 8, 100, 100, 100, 100, 7, 7, 100};
        int[] heavy = {0, 0, 0, 49, 50, 50, 50, 0, 0, 50};
        for (int i = 0; i < texts.length; i++) {
            int[][] want = {{0, plain[i]}, {1, heavy[i]}, {2, light[i]}, {3, Math.max(0, heavy[i] - 1)}};
            for (int[] w : want) {
                ScentCloth x = spot(w[0], 7, 0, 100);
                Due.read(x, texts[i]);
                due.is(texts[i] + ", kind " + w[0], x.loses(0, 0), w[1]);
            }
        }
        ScentCloth nothing = spot(0, 7, 0, 0);
        Due.read(nothing, "fade 1");
        due.is("of STRENGTH 0", nothing.loses(0, 0), 0);
        due.is("this wraps to a number below 0", 9999 * 9999 * 9999, -1027349969);
        due.is("and this beyond it, to one above 0", 9999 * 9999 * 43, 4172747);
    }

    /** "HEAVY: half (cut) of as SCENT. AMBER: as HEAVY, less 1 (0 at least)." */
    private static void halves() {
        int[] heavy = {0, 0, 1, 1, 2, 2, 3};
        int[] amber = {0, 0, 0, 0, 1, 1, 2};
        for (int plain = 0; plain < heavy.length; plain++) {
            ScentCloth h = spot(1, 50, plain, 100);
            Due.read(h, "fade w");
            due.is("HEAVY, of " + plain, h.loses(0, 0), heavy[plain]);
            h.turns(0, 3);
            due.is("AMBER, of " + plain, h.loses(0, 0), amber[plain]);
        }
    }

    /** "LIGHT: as SCENT, and PACE (STRENGTH at most)." */
    private static void lightAtMost() {
        int[] warm = {0, 12, 13, 14, 50};
        int[] lost = {7, 19, 20, 20, 20};
        for (int i = 0; i < warm.length; i++) {
            ScentCloth x = spot(2, 7, warm[i], 20);
            Due.read(x, "fade w");
            due.is("LIGHT, of " + warm[i] + " and 7", x.loses(0, 0), lost[i]);
        }
        due.is("PACE above STRENGTH", spot(2, 50, 0, 3).loses(0, 0), 3);
        due.is("of nothing", spot(2, 50, 0, 0).loses(0, 0), 0);
    }

    /** "LEMON: twice as LIGHT (STRENGTH at most)." */
    private static void lemonAtMost() {
        int[] warm = {0, 7, 8, 9, 17, 18, 19};
        int[] lost = {4, 18, 20, 21, 21, 21, 21};
        for (int i = 0; i < warm.length; i++) {
            ScentCloth x = spot(4, 2, warm[i], 21);
            Due.read(x, "fade w");
            due.is("LEMON, twice " + warm[i] + " and 2", x.loses(0, 0), lost[i]);
        }
        due.is("twice 499 and 0", spot(4, 0, 49, 999).loses(0, 0), 980);
        due.is("twice 500 and 0", spot(4, 0, 50, 999).loses(0, 0), 999);
        due.is("of nothing", spot(4, 50, 50, 0).loses(0, 0), 0);
    }

    /** "MUSK: as SCENT, if THE DAY is odd, else 0." THE DAY is that on which it fades. */
    private static void muskByDay() {
        ScentCloth x = spot(5, 0, 0, 100);
        int[] left = {100, 99, 99, 98, 98};
        for (int day = 0; day < left.length; day++) {
            due.is("on DAY " + day, x.loses(0, 0), day % 2);
            x.days(1);
            due.is("behind DAY " + day, x.strength(0, 0), left[day]);
        }
    }

    /** "n (-999 .. 999) of a SCENT come to a CLOTH, held within 0 .. 999" */
    private static void dabHeld() {
        int[][] rows = {{998, 1, 999}, {998, 2, 999}, {999, 999, 999}, {1, -1, 0}, {1, -2, 0}, {999, -999, 0}, {0, 999, 999},
            {0, -999, 0}, {500, 499, 999}, {500, 500, 999}, {500, -500, 0}, {500, -501, 0}};
        for (int[] r : rows) {
            ScentCloth x = spot(0, 0, 0, r[0]);
            due.is(r[0] + " and " + r[1], x.dab(0, 0, r[1]), r[2]);
            due.is(r[0] + " and " + r[1] + ", then", x.strength(0, 0), r[2]);
        }
    }

    /** "of each SCENT both have half (cut) of the sum of both STRENGTHS then" */
    private static void touchHalves() {
        int[][] rows = {{0, 0, 0, 0}, {0, 1, 0, 1}, {1, 0, 0, 1}, {1, 1, 1, 0}, {1, 2, 1, 1}, {0, 2, 1, 2}, {999, 999, 999, 0},
            {999, 998, 998, 1}, {0, 999, 499, 2}};
        for (int[] r : rows) {
            ScentCloth x = spot(0, 0, 0, r[0]);
            x.cloth();
            x.dab(1, 0, r[1]);
            due.is(r[0] + " touches " + r[1], x.touch(0, 1), r[3]);
            due.is("one then", x.strength(0, 0), r[2]);
            due.is("the other one then", x.strength(1, 0), r[2]);
        }
        ScentCloth none = new ScentCloth();
        none.cloth();
        none.cloth();
        due.is("no SCENTS", none.touch(1, 0), 0);
        ScentCloth all = new ScentCloth();
        all.deal(9);
        for (int c = 0; c < 6; c++) {
            all.cloth();
        }
        for (int s = 0; s < 9; s++) {
            all.dab(5, s, 2 + s);
        }
        due.is("nine of both", all.touch(0, 5), 18);
        due.is("the ninth", all.strength(0, 8), 5);
        due.is("others do not touch", all.strength(4, 8), 0);
        due.is("half of each is gone with what was cut", all.count(4), 2 * (1 + 1 + 2 + 2 + 3 + 3 + 4 + 4 + 5));
    }

    /** "THE DAY is 0 at first, 9999 at most", "n (1 .. 60) DAYS (no more than up to 9999)" */
    private static void muskOnTheLastDays() {
        ScentCloth x = new ScentCloth();
        due.is("0 at first", x.count(3), 0);
        x.cloth();
        x.scent(5, 0);
        for (int i = 0; i < 166; i++) {
            x.days(60);
        }
        due.is("9997", x.days(37), 9997);
        x.dab(0, 0, 50);
        due.is("9997 is odd", x.loses(0, 0), 1);
        due.is("9998", x.days(1), 9998);
        due.is("9998 is even", x.loses(0, 0), 0);
        due.is("one day of two", x.days(2), 9999);
        due.is("it did not fade on 9998", x.strength(0, 0), 49);
        due.is("9999 is odd", x.loses(0, 0), 1);
        due.is("but does not pass", x.days(60), 9999);
        due.is("it is all there", x.strength(0, 0), 49);
        x.nose(0, 49);
        x.word(1);
        due.is("in thought it passes", x.behind(0, 0, 1), Due.NONE);
        due.is("today it says still", x.behind(0, 0, 0), 0);
    }
}
