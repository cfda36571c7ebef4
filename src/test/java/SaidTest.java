/** Promises 20 to 32: what is said. */
public final class SaidTest {
    private static final Due due = new Due();

    public static void main(String[] args) {
        smells();
        hidden();
        says();
        behind();
        first();
        lasts();
        whispers();
        dumb();
        secret();
        least();
        leastOfEachKind();
        leastIsNotAlwaysASlope();
        letter();
        dated();
        datedEdges();
        price();
        lie();
        thoughtChangesNothing();
        due.end();
    }

    /** Paces 0: each scent loses 1 a day, whatever its strength. */
    private static ScentCloth plain(int... strengths) {
        ScentCloth x = new ScentCloth();
        x.cloth();
        for (int s = 0; s < strengths.length; s++) {
            x.scent(0, 0);
            x.dab(0, s, strengths[s]);
        }
        return x;
    }

    private static void smells() {
        ScentCloth x = plain(9, 10, 11);
        due.is("fine or more", x.smells(0, 0), 0b110);
        x.nose(3, 11);
        due.is("to another nose", x.smells(0, 3), 0b100);
        x.nose(3, 12);
        due.is("nothing", x.smells(0, 3), 0);
        due.is("smells(1, 0)", x.smells(1, 0), Due.BAD);
        due.is("smells(-1, 0)", x.smells(-1, 0), Due.BAD);
        due.is("smells(0, 4)", x.smells(0, 4), Due.BAD);
        due.is("smells(0, -1)", x.smells(0, -1), Due.BAD);
    }

    private static void hidden() {
        ScentCloth x = plain(39, 20, 80);
        x.hide(0, 1, 1);
        due.is("less than twice: not hidden", x.smells(0, 0), 0b111);
        x.dab(0, 0, 1);
        due.is("twice: hidden", x.smells(0, 0), 0b101);
        x.hide(2, 0, 1);
        due.is("a hidden one hides all the same", x.smells(0, 0), 0b100);
        x.hide(2, 0, 0);
        x.hide(0, 1, 0);
        x.hide(1, 0, 1);
        due.is("a weaker one hides nothing", x.smells(0, 0), 0b111);
    }

    private static void says() {
        ScentCloth x = plain(20, 20, 5);
        x.word(0b111);
        x.word(0b001);
        due.is("no such word", x.says(0, 0), Due.NONE);
        x.word(0b011);
        x.word(0b011);
        due.is("the least of those alike", x.says(0, 0), 2);
        x.nose(1, 5);
        due.is("to a finer nose", x.says(0, 1), 0);
        x.nose(1, 21);
        due.is("to one that smells nothing", x.says(0, 1), Due.NONE);
        due.is("says(1, 0)", x.says(1, 0), Due.BAD);
        due.is("says(-1, 0)", x.says(-1, 0), Due.BAD);
        due.is("says(0, 4)", x.says(0, 4), Due.BAD);
        due.is("says(0, -1)", x.says(0, -1), Due.BAD);
    }

    private static void behind() {
        ScentCloth x = plain(310, 20);
        x.word(0b01);
        x.word(0b11);
        due.is("behind 0", x.behind(0, 0, 0), 1);
        due.is("behind 10", x.behind(0, 0, 10), 1);
        due.is("behind 11", x.behind(0, 0, 11), 0);
        due.is("behind 300", x.behind(0, 0, 300), 0);
        due.is("behind 301", x.behind(0, 0, 301), Due.BAD);
        due.is("behind -1", x.behind(0, 0, -1), Due.BAD);
        x.dab(0, 0, -1);
        due.is("behind 300, one less", x.behind(0, 0, 300), Due.NONE);
        x.warm(0, 50);
        due.is("warm: 309, 154, 76, 37, 18, 8", x.behind(0, 0, 4), 0);
        due.is("warm, one day more", x.behind(0, 0, 5), Due.NONE);
        due.is("behind(1, 0, 0)", x.behind(1, 0, 0), Due.BAD);
        due.is("behind(0, 4, 0)", x.behind(0, 4, 0), Due.BAD);
        due.is("behind(-1, 0, 0)", x.behind(-1, 0, 0), Due.BAD);
        due.is("behind(0, -1, 0)", x.behind(0, -1, 0), Due.BAD);
    }

    private static void first() {
        ScentCloth x = plain(999, 209);
        x.word(0b01);
        x.word(0b11);
        x.word(0b01);
        x.word(0b10);
        due.is("now", x.first(0, 0, 1), 0);
        due.is("behind 200", x.first(0, 0, 0), 200);
        due.is("one that another one says for it", x.first(0, 0, 2), Due.NONE);
        due.is("never", x.first(0, 0, 3), Due.NONE);
        x.dab(0, 1, 1);
        due.is("not by 200", x.first(0, 0, 0), Due.NONE);
        due.is("first(0, 0, 4)", x.first(0, 0, 4), Due.BAD);
        due.is("first(0, 0, -1)", x.first(0, 0, -1), Due.BAD);
        due.is("first(1, 0, 0)", x.first(1, 0, 0), Due.BAD);
        due.is("first(-1, 0, 0)", x.first(-1, 0, 0), Due.BAD);
        due.is("first(0, 4, 0)", x.first(0, 4, 0), Due.BAD);
        due.is("first(0, -1, 0)", x.first(0, -1, 0), Due.BAD);
    }

    private static void lasts() {
        ScentCloth x = plain(30, 15);
        x.word(0b11);
        x.word(0b01);
        due.is("of 0 .. 0", x.lasts(0, 0, 0, 0), 1);
        due.is("of 0 .. 4", x.lasts(0, 0, 0, 4), 5);
        due.is("of 0 .. 200", x.lasts(0, 0, 0, 200), 6);
        due.is("from 6 to 20", x.lasts(0, 0, 1, 200), 15);
        due.is("not yet", x.lasts(0, 0, 1, 5), 0);
        due.is("n 201", x.lasts(0, 0, 0, 201), Due.BAD);
        due.is("n -1", x.lasts(0, 0, 0, -1), Due.BAD);
        due.is("word 2", x.lasts(0, 0, 2, 0), Due.BAD);
        due.is("word -1", x.lasts(0, 0, -1, 0), Due.BAD);
        due.is("cloth 1", x.lasts(1, 0, 0, 0), Due.BAD);
        due.is("cloth -1", x.lasts(-1, 0, 0, 0), Due.BAD);
        due.is("nose 4", x.lasts(0, 4, 0, 0), Due.BAD);
        due.is("nose -1", x.lasts(0, -1, 0, 0), Due.BAD);
    }

    /** The first scent hides the second one while it has twice its strength. */
    private static void whispers() {
        ScentCloth x = plain(40, 20);
        x.hide(0, 1, 1);
        x.word(0b01);
        x.word(0b11);
        x.word(0b10);
        due.is("40 is twice 20: word 0 alone", x.whispers(0, 0, 0), 1);
        due.is("39 is twice 19 and more", x.whispers(0, 0, 10), 1);
        x.dab(0, 0, -1);
        due.is("39 and 20: word 1", x.whispers(0, 0, 0), 1);
        due.is("38 and 19: word 0, too", x.whispers(0, 0, 1), 2);
        due.is("each once", x.whispers(0, 0, 200), 2);
        ScentCloth none = plain(5);
        none.word(1);
        due.is("no word", none.whispers(0, 0, 200), 0);
        due.is("n 201", x.whispers(0, 0, 201), Due.BAD);
        due.is("n -1", x.whispers(0, 0, -1), Due.BAD);
        due.is("cloth 1", x.whispers(1, 0, 0), Due.BAD);
        due.is("cloth -1", x.whispers(-1, 0, 0), Due.BAD);
        due.is("nose 4", x.whispers(0, 4, 0), Due.BAD);
        due.is("nose -1", x.whispers(0, -1, 0), Due.BAD);
    }

    private static void dumb() {
        ScentCloth x = plain(309, 20);
        due.is("behind 300", x.dumb(0, 0), 300);
        x.dab(0, 0, 1);
        due.is("not by 300", x.dumb(0, 0), Due.NONE);
        x.dab(0, 0, -301);
        due.is("as long as one smells", x.dumb(0, 0), 11);
        x.nose(2, 21);
        due.is("now", x.dumb(0, 2), 0);
        due.is("words do not matter", x.count(2), 0);
        due.is("dumb(1, 0)", x.dumb(1, 0), Due.BAD);
        due.is("dumb(-1, 0)", x.dumb(-1, 0), Due.BAD);
        due.is("dumb(0, 4)", x.dumb(0, 4), Due.BAD);
        due.is("dumb(0, -1)", x.dumb(0, -1), Due.BAD);
    }

    private static void secret() {
        ScentCloth x = plain(50, 30);
        x.word(0b01);
        x.nose(0, 1);
        x.nose(1, 20);
        x.nose(2, 31);
        x.nose(3, 50);
        due.is("0 and 1 smell both, 2 and 3 the first alone", x.secret(0, 0), 0b0011);
        due.is("behind 1 day 3 smells nothing", x.secret(0, 1), 0b1011);
        due.is("behind 11 days to 1 it says the first", x.secret(0, 11), 0b1001);
        due.is("behind 40 days to 0 alone", x.secret(0, 40), 0b1110);
        due.is("behind 300", x.secret(0, 300), 15);
        due.is("n 301", x.secret(0, 301), Due.BAD);
        due.is("n -1", x.secret(0, -1), Due.BAD);
        due.is("cloth 1", x.secret(1, 0), Due.BAD);
        due.is("cloth -1", x.secret(-1, 0), Due.BAD);
    }

    private static void least() {
        ScentCloth x = plain(0);
        due.is("n 0: fine", x.least(0, 0, 0, 0), 10);
        due.is("one a day", x.least(0, 0, 0, 100), 110);
        x.nose(1, 899);
        due.is("the strongest", x.least(0, 0, 1, 100), 999);
        x.nose(1, 900);
        due.is("none is enough", x.least(0, 0, 1, 100), Due.NONE);
        x.nose(2, 1);
        due.is("the finest nose", x.least(0, 0, 2, 7), 8);
        x.nose(3, 999);
        due.is("the dullest one, today", x.least(0, 0, 3, 0), 999);
        x.turns(0, 5);
        due.is("musk, from day 0 on: 4 odd ones of 9", x.least(0, 0, 0, 9), 14);
        x.days(7);
        due.is("musk, from day 7 on: 5 odd ones of 9", x.least(0, 0, 0, 9), 15);
        x.turns(0, 0);
        due.is("n 101", x.least(0, 0, 0, 101), Due.BAD);
        due.is("n -1", x.least(0, 0, 0, -1), Due.BAD);
        due.is("scent 1", x.least(0, 1, 0, 0), Due.BAD);
        due.is("scent -1", x.least(0, -1, 0, 0), Due.BAD);
        due.is("cloth 1", x.least(1, 0, 0, 0), Due.BAD);
        due.is("cloth -1", x.least(-1, 0, 0, 0), Due.BAD);
        due.is("nose 4", x.least(0, 0, 4, 0), Due.BAD);
        due.is("nose -1", x.least(0, 0, -1, 0), Due.BAD);
        Due.read(x, "fade 0");
        due.is("what never fades", x.least(0, 0, 0, 100), 10);
        x.warm(0, 50);
        Due.read(x, "fade w");
        due.is("by warm: 10 and 4 times 50", x.least(0, 0, 0, 4), 210);
    }

    /** Tries every strength by days that really pass, each on a new object. */
    private static void leastOfEachKind() {
        String[] fades = {"", "fade s/7", "fade p/3&s>40", "fade s*p/(s/30*10)", "fade s=57|s/9"};
        for (String fade : fades) {
            for (int odd = 0; odd < 2; odd++) {
                for (int kind = 0; kind < 6; kind++) {
                    for (int n = 0; n <= 9; n += 3) {
                        due.is("least of kind " + kind + " for " + n + " from day " + odd + " by '" + fade + "'",
                            leastCase(fade, odd, kind).least(0, 0, 0, n), leastByTrying(fade, odd, kind, n));
                    }
                }
            }
        }
    }

    private static ScentCloth leastCase(String fade, int odd, int kind) {
        ScentCloth x = new ScentCloth();
        x.cloth();
        x.scent(kind, 9);
        x.warm(0, 4);
        x.nose(0, 23);
        if (odd == 1) {
            x.days(1);
        }
        if (!fade.isEmpty() && Due.read(x, fade) != 0) {
            due.holds("'" + fade + "' is a text", false);
        }
        return x;
    }

    private static int leastByTrying(String fade, int odd, int kind, int n) {
        for (int s = 0; s <= 999; s++) {
            ScentCloth x = leastCase(fade, odd, kind);
            x.dab(0, 0, s);
            if (n > 0) {
                x.days(n);
            }
            if (x.strength(0, 0) >= 23) {
                return s;
            }
        }
        return Due.NONE;
    }

    /** 100 and all from 150 on stay, all others go: the least is 100 though 101 would not do. */
    private static void leastIsNotAlwaysASlope() {
        ScentCloth x = plain(0);
        Due.read(x, "fade s*!(s=100|s>149)");
        due.is("least", x.least(0, 0, 0, 50), 100);
        x.nose(0, 101);
        due.is("least above", x.least(0, 0, 0, 50), 150);
    }

    private static void letter() {
        ScentCloth x = plain(500, 500, 500);
        x.cloth();
        x.word(0b101);
        x.hide(0, 2, 1);
        due.is("12 and 0 and 12", x.letter(0, 0, 0, 2), 24);
        due.is("of the word", x.strength(0, 0), 12);
        due.is("of others", x.strength(0, 1), 0);
        due.is("of the word, too", x.strength(0, 2), 12);
        due.is("it says it then", x.behind(0, 0, 2), 0);
        x.nose(1, 900);
        due.is("no least", x.letter(0, 0, 1, 100), Due.NO);
        due.is("nothing changed", x.strength(0, 0), 12);
        x.turns(2, 2);
        x.pace(2, 50);
        due.is("no least of one", x.letter(0, 0, 0, 100), Due.NO);
        due.is("nothing changed by it", x.strength(0, 0), 12);
        due.is("n 0", x.letter(1, 0, 0, 0), 20);
        due.is("on the other cloth", x.strength(1, 2), 10);
        due.is("n 101", x.letter(0, 0, 0, 101), Due.BAD);
        due.is("n -1", x.letter(0, 0, 0, -1), Due.BAD);
        due.is("word 1", x.letter(0, 1, 0, 0), Due.BAD);
        due.is("word -1", x.letter(0, -1, 0, 0), Due.BAD);
        due.is("cloth 2", x.letter(2, 0, 0, 0), Due.BAD);
        due.is("cloth -1", x.letter(-1, 0, 0, 0), Due.BAD);
        due.is("nose 4", x.letter(0, 0, 4, 0), Due.BAD);
        due.is("nose -1", x.letter(0, 0, -1, 0), Due.BAD);
    }

    private static void dated() {
        ScentCloth x = plain(500);
        x.sheet(0, 0, 3);
        x.mark(0, 0, 480);
        x.mark(0, 1, 479);
        x.mark(0, 2, 475);
        due.is("n", x.dated(0, 0, 0, 0), 20);
        x.sheet(2, 0, 1);
        for (int n = 0; n < 3; n++) {
            x.mark(2, 0, 500 - n);
            due.is("n " + n, x.dated(2, 0, 0, 0), n);
            due.is("right at " + n, x.dated(2, 0, 0, 1), 0);
        }
        due.is("differences", x.dated(0, 0, 0, 1), 3);
        x.mark(0, 2, 478);
        due.is("no differences", x.dated(0, 0, 0, 1), 0);
        x.sheet(1, 1, 2);
        x.mark(1, 0, 480);
        x.mark(1, 1, 475);
        due.is("of several the least: 20 to 24 do", x.dated(1, 0, 0, 0), 20);
        due.is("signs left out", x.dated(1, 0, 0, 1), 4);
        x.mark(1, 0, Due.NONE);
        due.is("a place that is no number", x.dated(1, 0, 0, 0), 24);
        due.is("counts for nothing", x.dated(1, 0, 0, 1), 0);
        x.mark(1, 1, Due.NONE);
        due.is("no numbers at all", x.dated(1, 0, 0, 0), 0);
        due.is("no differences then", x.dated(1, 0, 0, 1), 0);
    }

    private static void datedEdges() {
        ScentCloth x = plain(500);
        due.is("missing", x.dated(0, 0, 0, 0), Due.NOTHING);
        due.is("bad before missing", x.dated(0, 0, 0, 2), Due.BAD);
        x.sheet(0, 1, 24);
        for (int k = 0; k < 24; k++) {
            x.mark(0, k, 400 - k);
        }
        due.is("100", x.dated(0, 0, 0, 0), 100);
        due.is("100, just", x.dated(0, 0, 0, 1), 0);
        x.dab(0, 0, 5);
        due.is("no further than 100", x.dated(0, 0, 0, 0), 100);
        due.is("off by 5 at 24 places", x.dated(0, 0, 0, 1), 120);
        x.sheet(1, 0, 0);
        due.is("no places", x.dated(1, 0, 0, 0), 0);
        x.mark(0, 0, -99999);
        due.is("far below", x.dated(0, 0, 0, 1), 115 + 100404);
        x.turns(0, 5);
        x.sheet(2, 0, 1);
        x.mark(2, 0, 500);
        due.is("musk rests every other day", x.dated(2, 0, 0, 0), 10);
        x.days(1);
        due.is("from an odd day on", x.dated(2, 0, 0, 0), 9);
        due.is("sheet 4", x.dated(4, 0, 0, 0), Due.BAD);
        due.is("sheet -1", x.dated(-1, 0, 0, 0), Due.BAD);
        due.is("cloth 1", x.dated(0, 1, 0, 0), Due.BAD);
        due.is("scent 1", x.dated(0, 0, 1, 0), Due.BAD);
        due.is("scent -1", x.dated(0, 0, -1, 0), Due.BAD);
        due.is("what 2", x.dated(0, 0, 0, 2), Due.BAD);
        due.is("what -1", x.dated(0, 0, 0, -1), Due.BAD);
    }

    private static void price() {
        ScentCloth x = plain(100, 0, 999);
        due.is("without a text", x.price(0), 1099);
        Due.read(x, "price t*1000*1000+n");
        due.is("ints wrap", x.price(0), 1099 * 1000 * 1000 + 2);
        Due.read(x, "price 0-t");
        due.is("below 0", x.price(0), -1099);
        x.cloth();
        due.is("of an empty cloth", x.price(1), 0);
        due.is("price(2)", x.price(2), Due.BAD);
        due.is("price(-1)", x.price(-1), Due.BAD);
    }

    private static void lie() {
        ScentCloth x = plain(20, 12);
        due.is("without a text", x.lie(0), 0);
        x.word(0b11);
        x.word(0b01);
        Due.read(x, "lie d*100+n");
        due.is("day 0, word 0", x.lie(0), 0);
        x.days(3);
        due.is("day 3, word 1", x.lie(0), 301);
        x.nose(1, 1);
        due.is("to nose 0", x.lie(0), 301);
        x.days(8);
        due.is("no word", x.lie(0), 1199);
        due.is("lie(1)", x.lie(1), Due.BAD);
        due.is("lie(-1)", x.lie(-1), Due.BAD);
    }

    private static void thoughtChangesNothing() {
        ScentCloth x = plain(200, 300);
        x.word(3);
        x.sheet(0, 0, 5);
        x.behind(0, 0, 300);
        x.first(0, 0, 0);
        x.lasts(0, 0, 0, 200);
        x.whispers(0, 0, 200);
        x.dumb(0, 0);
        x.secret(0, 300);
        x.least(0, 0, 0, 100);
        x.dated(0, 0, 0, 0);
        due.is("the day", x.count(3), 0);
        due.is("strengths", x.count(4), 500);
        due.is("one", x.strength(0, 0), 200);
    }
}
