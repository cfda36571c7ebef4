/** Promises 1 to 12: a new object; scents, noses, words. */
public final class ScentsTest {
    private static final Due due = new Due();

    public static void main(String[] args) {
        newObject();
        scent();
        told();
        as();
        turns();
        pace();
        hide();
        nose();
        word();
        wordOf();
        deal();
        seed();
        edgesOfKinds();
        hidesAsBits();
        hidesStay();
        wordsOfLaterScents();
        lastRoomForDeal();
        drawsWrap();
        due.end();
    }

    private static void newObject() {
        ScentCloth x = new ScentCloth();
        for (int what = 0; what <= 7; what++) {
            due.is("new: count(" + what + ")", x.count(what), 0);
        }
        due.is("new: count(8)", x.count(8), 1);
        due.is("new: told(0, 0)", x.told(0, 0), Due.BAD);
        due.is("new: back()", x.back(), Due.NO);
        for (int key = 0; key < 3; key++) {
            due.is("new: why(" + key + ")", x.why(key), Due.NONE);
        }
        for (int sheet = 0; sheet < 4; sheet++) {
            due.is("new: mark(" + sheet + ", 0, 0)", x.mark(sheet, 0, 0), Due.NOTHING);
        }
        for (int slot = 0; slot < 5; slot++) {
            due.is("new: rest(" + slot + ", 1)", x.rest(slot, 1), Due.NOTHING);
        }
        for (int nose = 0; nose < 4; nose++) {
            due.is("new: nose(" + nose + ", 7)", x.nose(nose, 7), 10);
        }
    }

    private static void scent() {
        ScentCloth x = new ScentCloth();
        due.is("scent(-1, 0)", x.scent(-1, 0), Due.BAD);
        due.is("scent(6, 0)", x.scent(6, 0), Due.BAD);
        due.is("scent(0, -1)", x.scent(0, -1), Due.BAD);
        due.is("scent(0, 51)", x.scent(0, 51), Due.BAD);
        due.is("nothing came", x.count(0), 0);
        for (int i = 0; i < 9; i++) {
            due.is("scent " + i, x.scent(i % 6, i == 0 ? 0 : 50), i);
        }
        due.is("a tenth", x.scent(0, 0), Due.FULL);
        due.is("a tenth that is bad", x.scent(6, 0), Due.BAD);
        due.is("nine", x.count(0), 9);
    }

    private static void told() {
        ScentCloth x = new ScentCloth();
        int[] worthAt0 = {0, 60, 5, 120, -2, 99};
        int[] worthAt50 = {50, 10, 55, 20, 48, 99};
        for (int kind = 0; kind < 6; kind++) {
            x.scent(kind, 0);
            due.is("kind " + kind, x.told(kind, 0), kind);
            due.is("pace 0 of kind " + kind, x.told(kind, 1), 0);
            due.is("worth at pace 0 of kind " + kind, x.told(kind, 2), worthAt0[kind]);
            x.pace(kind, 50);
            due.is("pace 50 of kind " + kind, x.told(kind, 1), 50);
            due.is("worth at pace 50 of kind " + kind, x.told(kind, 2), worthAt50[kind]);
            due.is("hides nothing at first", x.told(kind, 3), 0);
        }
        due.is("told(6, 0)", x.told(6, 0), Due.BAD);
        due.is("told(-1, 0)", x.told(-1, 0), Due.BAD);
        due.is("told(0, -1)", x.told(0, -1), Due.BAD);
        due.is("told(0, 4)", x.told(0, 4), Due.BAD);
    }

    private static void as() {
        ScentCloth x = new ScentCloth();
        int[] above = {0b000001, 0b000011, 0b000101, 0b001011, 0b010101, 0b100001};
        for (int kind = 0; kind < 6; kind++) {
            x.scent(kind, 10 + kind);
            for (int of = 0; of < 6; of++) {
                boolean is = (above[kind] >> of & 1) == 1;
                due.is("as(" + kind + ", " + of + ")", x.as(kind, of), is ? 10 + kind : Due.KIND);
            }
        }
        due.is("as(6, 0)", x.as(6, 0), Due.BAD);
        due.is("as(-1, 0)", x.as(-1, 0), Due.BAD);
        due.is("as(0, 6)", x.as(0, 6), Due.BAD);
        due.is("as(0, -1)", x.as(0, -1), Due.BAD);
    }

    private static void turns() {
        ScentCloth x = new ScentCloth();
        x.scent(3, 20);
        due.is("turns(0, 4)", x.turns(0, 4), 3);
        due.is("kind then", x.told(0, 0), 4);
        due.is("pace stays", x.told(0, 1), 20);
        due.is("worth is the new kind's", x.told(0, 2), 18);
        due.is("the same kind again", x.turns(0, 4), 4);
        due.is("turns(0, 6)", x.turns(0, 6), Due.BAD);
        due.is("turns(0, -1)", x.turns(0, -1), Due.BAD);
        due.is("turns(1, 0)", x.turns(1, 0), Due.BAD);
        due.is("turns(-1, 0)", x.turns(-1, 0), Due.BAD);
        due.is("kind stays", x.told(0, 0), 4);
    }

    private static void pace() {
        ScentCloth x = new ScentCloth();
        x.scent(0, 20);
        due.is("pace(0, 0)", x.pace(0, 0), 20);
        due.is("pace(0, 50)", x.pace(0, 50), 0);
        due.is("pace(0, 51)", x.pace(0, 51), Due.BAD);
        due.is("pace(0, -1)", x.pace(0, -1), Due.BAD);
        due.is("pace(1, 0)", x.pace(1, 0), Due.BAD);
        due.is("pace(-1, 0)", x.pace(-1, 0), Due.BAD);
        due.is("pace stays", x.told(0, 1), 50);
    }

    private static void hide() {
        ScentCloth x = new ScentCloth();
        for (int i = 0; i < 9; i++) {
            x.scent(0, i);
        }
        due.is("hide(0, 8, 1)", x.hide(0, 8, 1), 0);
        due.is("hide(0, 1, 1)", x.hide(0, 1, 1), 0);
        due.is("hide(0, 1, 1) again", x.hide(0, 1, 1), 1);
        due.is("hides", x.told(0, 3), 0b100000010);
        due.is("not the other way", x.told(8, 3), 0);
        due.is("hide(0, 8, 0)", x.hide(0, 8, 0), 1);
        due.is("hide(0, 8, 0) again", x.hide(0, 8, 0), 0);
        due.is("hides one less", x.told(0, 3), 2);
        due.is("itself", x.hide(3, 3, 1), Due.BAD);
        due.is("itself, not", x.hide(3, 3, 0), Due.BAD);
        due.is("v 2", x.hide(0, 1, 2), Due.BAD);
        due.is("v -1", x.hide(0, 1, -1), Due.BAD);
        due.is("hide(9, 0, 1)", x.hide(9, 0, 1), Due.BAD);
        due.is("hide(0, 9, 1)", x.hide(0, 9, 1), Due.BAD);
        due.is("hide(-1, 0, 1)", x.hide(-1, 0, 1), Due.BAD);
        due.is("hide(0, -1, 1)", x.hide(0, -1, 1), Due.BAD);
        due.is("hides as before", x.told(0, 3), 2);
    }

    private static void nose() {
        ScentCloth x = new ScentCloth();
        due.is("nose(3, 999)", x.nose(3, 999), 10);
        due.is("nose(3, 1)", x.nose(3, 1), 999);
        due.is("nose(0, 1)", x.nose(0, 1), 10);
        due.is("nose(3, 0)", x.nose(3, 0), Due.BAD);
        due.is("nose(3, 1000)", x.nose(3, 1000), Due.BAD);
        due.is("nose(4, 5)", x.nose(4, 5), Due.BAD);
        due.is("nose(-1, 5)", x.nose(-1, 5), Due.BAD);
        due.is("fine stays", x.nose(3, 5), 1);
    }

    private static void word() {
        ScentCloth x = new ScentCloth();
        due.is("no scents", x.word(1), Due.BAD);
        x.scent(0, 0);
        x.scent(0, 0);
        due.is("empty", x.word(0), Due.BAD);
        due.is("one not there", x.word(4), Due.BAD);
        due.is("one not there among others", x.word(7), Due.BAD);
        due.is("the highest bit", x.word(Integer.MIN_VALUE | 1), Due.BAD);
        due.is("all bits", x.word(-1), Due.BAD);
        for (int i = 0; i < 12; i++) {
            due.is("word " + i, x.word(1 + i % 3), i);
        }
        due.is("a thirteenth", x.word(1), Due.FULL);
        due.is("a thirteenth that is bad", x.word(0), Due.BAD);
        due.is("twelve", x.count(2), 12);
        ScentCloth all = new ScentCloth();
        all.deal(9);
        due.is("all nine", all.word(511), 0);
        due.is("a tenth", all.word(512), Due.BAD);
    }

    private static void wordOf() {
        ScentCloth x = new ScentCloth();
        x.deal(3);
        x.word(5);
        x.word(7);
        due.is("wordOf(0)", x.wordOf(0), 5);
        due.is("wordOf(1)", x.wordOf(1), 7);
        due.is("wordOf(2)", x.wordOf(2), Due.BAD);
        due.is("wordOf(-1)", x.wordOf(-1), Due.BAD);
    }

    private static void deal() {
        ScentCloth x = new ScentCloth();
        due.is("deal(0)", x.deal(0), Due.BAD);
        due.is("deal(10)", x.deal(10), Due.BAD);
        due.is("no draws", x.count(8), 1);
        x.scent(0, 0);
        x.scent(0, 0);
        due.is("deal(9) with room for 7", x.deal(9), 7);
        int z = 1;
        for (int s = 2; s < 9; s++) {
            z = z * 1103515245 + 12345;
            due.is("kind of " + s, x.told(s, 0), (z >>> 8) % 6);
            z = z * 1103515245 + 12345;
            due.is("pace of " + s, x.told(s, 1), (z >>> 8) % 51);
        }
        due.is("two draws each", x.count(8), z);
        due.is("no room", x.deal(1), 0);
        due.is("no draws without room", x.count(8), z);
        ScentCloth y = new ScentCloth();
        due.is("deal(1)", y.deal(1), 1);
        due.is("z 1 draws 1103527590 >>> 8, by 6", y.told(0, 0), 4310654 % 6);
        due.is("deal(9) fills", y.deal(9), 8);
    }

    private static void seed() {
        ScentCloth x = new ScentCloth();
        due.is("seed(-5)", x.seed(-5), 1);
        due.is("seed(least)", x.seed(Integer.MIN_VALUE), -5);
        due.is("count(8)", x.count(8), Integer.MIN_VALUE);
        due.is("seed(0)", x.seed(0), Integer.MIN_VALUE);
        x.deal(1);
        due.is("0 draws 12345, then once more", x.count(8), 12345 * 1103515245 + 12345);
        due.is("kind", x.told(0, 0), (12345 >>> 8) % 6);
        for (int v : new int[] {Due.BAD, Due.NO, Due.FULL, Due.NONE}) {
            x.seed(v);
            due.is("z may be any number", x.count(8), v);
            due.is("what it was, also if it looks refused", x.seed(0), v);
        }
    }

    /** "of KINDS: 0 SCENT; 1 HEAVY, 2 LIGHT, 5 MUSK, under SCENT; 3 AMBER, under HEAVY; 4 LEMON, under LIGHT" */
    private static void edgesOfKinds() {
        ScentCloth x = new ScentCloth();
        due.is("the first kind", x.scent(0, 50), 0);
        due.is("the last kind", x.scent(5, 0), 1);
        due.is("turns to the last one", x.turns(0, 5), 0);
        due.is("it is a MUSK", x.as(0, 5), 50);
        due.is("turns to the first one", x.turns(0, 0), 5);
        due.is("it is none any more", x.as(0, 5), Due.KIND);
        due.is("nor one under HEAVY", x.as(0, 3), Due.KIND);
        x.turns(0, 1);
        due.is("HEAVY is no AMBER", x.as(0, 3), Due.KIND);
        x.turns(0, 2);
        due.is("LIGHT is no LEMON", x.as(0, 4), Due.KIND);
        x.turns(0, 3);
        due.is("AMBER is HEAVY", x.as(0, 1), 50);
        due.is("AMBER is not LIGHT", x.as(0, 2), Due.KIND);
        x.pace(0, 0);
        due.is("PACE 0 is told, too", x.as(0, 0), 0);
    }

    /** "Sets of SCENTS and of NOSES are told as bits (bit k for number k)." */
    private static void hidesAsBits() {
        ScentCloth x = new ScentCloth();
        x.deal(9);
        for (int k = 1; k < 9; k++) {
            due.is("not at first", x.hide(0, k, 1), 0);
            due.is("bits 1 to " + k, x.told(0, 3), (2 << k) - 2);
        }
        for (int k = 0; k < 8; k++) {
            x.hide(8, k, 1);
            due.is("bit " + k, x.told(8, 3), 1 << k);
            x.hide(8, k, 0);
        }
        due.is("none any more", x.told(8, 3), 0);
        due.is("others are as they were", x.told(0, 3), 510);
    }

    private static void hidesStay() {
        ScentCloth x = new ScentCloth();
        x.scent(0, 0);
        x.scent(0, 0);
        x.hide(0, 1, 1);
        x.turns(0, 5);
        x.turns(1, 4);
        x.pace(0, 9);
        due.is("of another kind, it hides the same", x.told(0, 3), 2);
        due.is("and is not hidden by what it hides", x.told(1, 3), 0);
    }

    /** "a set of SCENTS each (those that are there; not empty)" */
    private static void wordsOfLaterScents() {
        ScentCloth x = new ScentCloth();
        for (int k = 0; k < 9; k++) {
            due.is("SCENT " + k + " is not there yet", x.word(1 << k), Due.BAD);
            x.scent(0, 0);
            due.is("now it is", x.word(1 << k), k);
            due.is("its set", x.wordOf(k), 1 << k);
        }
        due.is("no tenth one", x.word(1 << 9), Due.BAD);
        due.is("all but the first", x.word(510), 9);
        due.is("a set once more", x.word(510), 10);
        due.is("the twelfth", x.word(511), 11);
        due.is("told", x.wordOf(11), 511);
        due.is("none behind it", x.wordOf(12), Due.BAD);
    }

    /** "as many as there is room for (no draws for others)" */
    private static void lastRoomForDeal() {
        ScentCloth x = new ScentCloth();
        due.is("eight of nine", x.deal(8), 8);
        x.seed(0);
        due.is("room for one", x.deal(9), 1);
        due.is("two draws", x.count(8), -740551042);
        due.is("KIND 48 by 6", x.told(8, 0), 0);
        due.is("PACE 13884438 by 51", x.told(8, 1), 45);
        due.is("no room", x.deal(9), 0);
        due.is("no draw", x.count(8), -740551042);
        ScentCloth y = new ScentCloth();
        due.is("nine at once", y.deal(9), 9);
    }

    /** "z becomes z * 1103515245 + 12345 (an int); it gives z >>> 8" */
    private static void drawsWrap() {
        int[] seeds = {1, -1, Integer.MIN_VALUE, Integer.MAX_VALUE, 3};
        int[] kinds = {2, 1, 2, 5, 1};
        int[] paces = {44, 45, 19, 20, 43};
        int[] then = {-1770082073, 288979989, 1406932606, -1858503659, 465823161};
        for (int i = 0; i < seeds.length; i++) {
            ScentCloth x = new ScentCloth();
            due.is("z is 1 at first", x.seed(seeds[i]), 1);
            x.deal(1);
            due.is("KIND by seed " + seeds[i], x.told(0, 0), kinds[i]);
            due.is("PACE by seed " + seeds[i], x.told(0, 1), paces[i]);
            due.is("z behind seed " + seeds[i], x.count(8), then[i]);
        }
    }
}
