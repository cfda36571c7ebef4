/** Promises 20 to 32 at the edges that parts 1 and 3 name, sentence by sentence. */
public final class SaidEdgesTest {
    private static final Due due = new Due();

    public static void main(String[] args) {
        fineOrMore();
        bits();
        twiceOrMore();
        hiddenByAnother();
        leastWord();
        aWordThatComesBack();
        everyWordOnce();
        noWordsAtAll();
        secretToWhom();
        leastOfAll();
        leastWhateverIsThere();
        letterOfAll();
        letterThatIsNone();
        datedPlaces();
        datedWhenGone();
        beyondTheLastDay();
        priceAtTheEdges();
        lieAtTheEdges();
        due.end();
    }

    /** Paces 0: each SCENT loses 1 a DAY. */
    private static ScentCloth plain(int... strengths) {
        ScentCloth x = new ScentCloth();
        x.cloth();
        for (int s = 0; s < strengths.length; s++) {
            x.scent(0, 0);
            x.dab(0, s, strengths[s]);
        }
        return x;
    }

    /** "all SCENTS whose STRENGTH is FINE or more" */
    private static void fineOrMore() {
        int[][] rows = {{1, 0, 0}, {1, 1, 1}, {1, 999, 1}, {10, 9, 0}, {10, 10, 1}, {999, 998, 0}, {999, 999, 1}, {998, 999, 1}};
        for (int[] r : rows) {
            for (int nose = 0; nose < 4; nose++) {
                ScentCloth x = plain(r[1]);
                x.nose(nose, r[0]);
                due.is("STRENGTH " + r[1] + " to NOSE " + nose + " of FINE " + r[0], x.smells(0, nose), r[2]);
            }
        }
        ScentCloth x = new ScentCloth();
        x.cloth();
        due.is("no SCENTS", x.smells(0, 0), 0);
    }

    /** "told as bits (bit k for number k)" */
    private static void bits() {
        for (int k = 0; k < 9; k++) {
            ScentCloth x = plain(0, 0, 0, 0, 0, 0, 0, 0, 0);
            x.dab(0, k, 10);
            due.is("SCENT " + k + " alone", x.smells(0, 3), 1 << k);
        }
        due.is("all nine", plain(10, 10, 10, 10, 10, 10, 10, 10, 10).smells(0, 0), 511);
        for (int nose = 0; nose < 4; nose++) {
            ScentCloth x = plain(50);
            x.word(1);
            due.is("secret to none", x.secret(0, 0), 0);
            x.nose(nose, 51);
            due.is("secret to NOSE " + nose + " alone", x.secret(0, 0), 1 << nose);
        }
    }

    /** "by a SCENT that HIDES it, whose STRENGTH is twice its own or more" */
    private static void twiceOrMore() {
        int[][] rows = {{2, 1, 1}, {1, 1, 3}, {3, 2, 3}, {4, 2, 1}, {5, 2, 1}, {997, 499, 3}, {998, 499, 1}, {999, 499, 1},
            {999, 500, 3}, {999, 999, 3}, {0, 1, 2}, {1, 0, 1}};
        for (int[] r : rows) {
            ScentCloth x = plain(r[0], r[1]);
            x.nose(0, 1);
            x.hide(0, 1, 1);
            due.is(r[0] + " that hides " + r[1], x.smells(0, 0), r[2]);
            x.hide(0, 1, 0);
            due.is(r[0] + " that does not", x.smells(0, 0), (r[0] > 0 ? 1 : 0) + (r[1] > 0 ? 2 : 0));
        }
        ScentCloth both = plain(20, 20);
        both.hide(0, 1, 1);
        both.hide(1, 0, 1);
        due.is("one another, alike", both.smells(0, 0), 3);
        both.dab(0, 1, 20);
        due.is("one another, one twice as strong", both.smells(0, 0), 2);
    }

    private static void hiddenByAnother() {
        ScentCloth x = plain(10, 30, 30, 30, 30, 30, 30, 30, 30);
        for (int s = 1; s < 9; s++) {
            x.hide(s, 0, 1);
            due.is("hidden by SCENT " + s, x.smells(0, 0), 510);
            x.hide(s, 0, 0);
        }
        x.cloth();
        x.dab(1, 0, 10);
        x.hide(8, 0, 1);
        due.is("not by what is on another CLOTH", x.smells(1, 0), 1);
    }

    /** "the least WORD that is just what it SMELLS; none, if there is no such one" */
    private static void leastWord() {
        ScentCloth x = plain(20, 20, 0);
        int[] others = {0b111, 0b001, 0b010, 0b100, 0b101, 0b110, 0b111, 0b001, 0b010, 0b100, 0b101};
        for (int set : others) {
            x.word(set);
        }
        due.is("neither more nor less will do", x.says(0, 0), Due.NONE);
        due.is("the twelfth", x.word(0b011), 11);
        due.is("is said", x.says(0, 0), 11);
        x.dab(0, 2, 20);
        due.is("the least of two", x.says(0, 0), 0);
        x.dab(0, 0, -20);
        x.dab(0, 1, -20);
        x.dab(0, 2, -20);
        due.is("it smells of nothing", x.says(0, 0), Due.NONE);
    }

    /**
     * The first one loses 5 a DAY, the other 1, and is hidden while it has half as much: 25 and 12, 20 and 11, 15 and 10,
     * 10 and 9, 5 and 8. So word 0 is said, word 1, word 1, word 0, and then none.
     */
    private static void aWordThatComesBack() {
        ScentCloth x = plain(25, 12);
        Due.read(x, "fade 1");
        x.turns(0, 2);
        x.pace(0, 4);
        x.hide(0, 1, 1);
        x.word(0b01);
        x.word(0b11);
        int[] said = {0, 1, 1, 0, Due.NONE, Due.NONE};
        int[] whispered = {1, 2, 2, 2, 2, 2};
        int[] lastsOfFirst = {1, 1, 1, 2, 2, 2};
        int[] lastsOfOther = {0, 1, 2, 2, 2, 2};
        for (int n = 0; n < said.length; n++) {
            due.is("behind " + n, x.behind(0, 0, n), said[n]);
            due.is("each counted once, in " + n, x.whispers(0, 0, n), whispered[n]);
            due.is("LONG of one, in " + n, x.lasts(0, 0, 0, n), lastsOfFirst[n]);
            due.is("LONG of the other one, in " + n, x.lasts(0, 0, 1, n), lastsOfOther[n]);
        }
        due.is("FIRST of one", x.first(0, 0, 0), 0);
        due.is("FIRST of the other one", x.first(0, 0, 1), 1);
        due.is("DUMB", x.dumb(0, 0), 4);
        due.is("in 200", x.whispers(0, 0, 200) + 10 * x.lasts(0, 0, 0, 200), 22);
    }

    /** Each DAY one SCENT less is FINE; words 3 to 11 are what is left. */
    private static void everyWordOnce() {
        ScentCloth x = plain(10, 11, 12, 13, 14, 15, 16, 17, 18);
        x.word(1);
        x.word(2);
        x.word(3);
        for (int k = 0; k < 9; k++) {
            x.word(511 >> k << k);
        }
        for (int k = 0; k < 9; k++) {
            due.is("WHISPERS in " + k, x.whispers(0, 0, k), k + 1);
            due.is("FIRST of word " + (3 + k), x.first(0, 0, 3 + k), k);
            due.is("LONG of word " + (3 + k), x.lasts(0, 0, 3 + k, 200), 1);
        }
        due.is("all of them", x.whispers(0, 0, 200), 9);
        due.is("DUMB", x.dumb(0, 0), 9);
        due.is("never", x.first(0, 0, 0), Due.NONE);
        due.is("not once", x.lasts(0, 0, 0, 200), 0);
    }

    private static void noWordsAtAll() {
        ScentCloth x = plain(500);
        due.is("says", x.says(0, 0), Due.NONE);
        due.is("behind 300", x.behind(0, 0, 300), Due.NONE);
        due.is("whispers", x.whispers(0, 0, 200), 0);
        due.is("secret", x.secret(0, 0), 15);
        due.is("no word to ask for", x.first(0, 0, 0), Due.BAD);
        due.is("none to last", x.lasts(0, 0, 0, 0), Due.BAD);
        due.is("none to write", x.letter(0, 0, 0, 0), Due.BAD);
        due.is("though it smells all the while", x.dumb(0, 0), Due.NONE);
    }

    /** "SECRET on DAY n: NOSES to whom it SAYS nothing behind n DAYS." What smells of too much says nothing, too. */
    private static void secretToWhom() {
        ScentCloth x = plain(310, 20);
        x.word(0b01);
        x.nose(1, 11);
        x.nose(2, 21);
        x.nose(3, 311);
        due.is("today", x.secret(0, 0), 0b1011);
        due.is("behind 10", x.secret(0, 10), 0b1001);
        due.is("behind 11", x.secret(0, 11), 0b1000);
        due.is("behind 289", x.secret(0, 289), 0b1000);
        due.is("behind 290", x.secret(0, 290), 0b1100);
        due.is("behind 299", x.secret(0, 299), 0b1100);
        due.is("behind 300", x.secret(0, 300), 0b1110);
    }

    /** "the least STRENGTH (0 .. 999) from which behind n DAYS there is FINE or more left on it" */
    private static void leastOfAll() {
        int[][] rows = {{1, 0, 1}, {1, 1, 2}, {1, 100, 101}, {999, 0, 999}, {998, 1, 999}, {999, 1, Due.NONE}, {899, 100, 999},
            {900, 100, Due.NONE}, {900, 99, 999}, {500, 0, 500}};
        for (int[] r : rows) {
            ScentCloth x = plain(0);
            x.nose(3, r[0]);
            due.is("FINE " + r[0] + " for " + r[1], x.least(0, 0, 3, r[1]), r[2]);
        }
    }

    private static void leastWhateverIsThere() {
        ScentCloth x = plain(999, 999);
        x.cloth();
        x.hide(1, 0, 1);
        due.is("what is on it does not count, nor what hides it", x.least(0, 0, 0, 7), 17);
        x.warm(1, 50);
        due.is("WARM does: of 21 there are 10 left", x.least(1, 0, 0, 1), 21);
        due.is("of that CLOTH alone", x.least(0, 0, 0, 1), 11);
    }

    /** "STRENGTHS become LEAST of each SCENT of the WORD (all that HIDES aside), 0 of others" */
    private static void letterOfAll() {
        ScentCloth x = plain(1, 2, 3, 4, 5, 6, 7, 8, 9);
        x.cloth();
        x.dab(1, 8, 7);
        x.word(511);
        x.word(256);
        x.hide(0, 8, 1);
        x.nose(3, 999);
        due.is("nine times 999", x.letter(0, 0, 3, 0), 8991);
        due.is("all of them", x.count(4), 8998);
        due.is("one day is too long", x.letter(0, 0, 3, 1), Due.NO);
        due.is("the ninth alone, for 100", x.letter(0, 1, 0, 100), 110);
        for (int s = 0; s < 9; s++) {
            due.is("STRENGTH " + s, x.strength(0, s), s == 8 ? 110 : 0);
        }
        due.is("the other CLOTH is as it was", x.strength(1, 8), 7);
    }

    /** "NO: there is no LEAST of one": whichever of them it is. */
    private static void letterThatIsNone() {
        for (int fast = 0; fast < 9; fast++) {
            ScentCloth x = plain(1, 2, 3, 4, 5, 6, 7, 8, 9);
            x.word(511);
            x.turns(fast, 2);
            x.pace(fast, 50);
            due.is("SCENT " + fast + " is gone by then", x.letter(0, 0, 0, 100), Due.NO);
            for (int s = 0; s < 9; s++) {
                due.is("STRENGTH " + s + " stays", x.strength(0, s), s + 1);
            }
        }
    }

    /** "STRENGTH of that SCENT behind n and k DAYS on a CLOTH and places k that are numbers (k from 0 on)" */
    private static void datedPlaces() {
        ScentCloth x = plain(500, 300);
        x.sheet(0, 1, 24);
        for (int k = 0; k < 24; k++) {
            x.mark(0, k, Due.NONE);
        }
        due.is("no numbers: the least", x.dated(0, 0, 0, 0), 0);
        due.is("no differences", x.dated(0, 0, 0, 1), 0);
        x.mark(0, 23, 470);
        due.is("the last place alone: behind 30, 23 ahead", x.dated(0, 0, 0, 0), 7);
        due.is("just so", x.dated(0, 0, 0, 1), 0);
        x.mark(0, 23, 477);
        due.is("0", x.dated(0, 0, 0, 0), 0);
        x.mark(0, 23, 478);
        due.is("no less than 0", x.dated(0, 0, 0, 0), 0);
        due.is("1 above it", x.dated(0, 0, 0, 1), 1);
        x.mark(0, 23, 377);
        due.is("100", x.dated(0, 0, 0, 0), 100);
        x.mark(0, 23, 376);
        due.is("no more than 100", x.dated(0, 0, 0, 0), 100);
        due.is("1 below it", x.dated(0, 0, 0, 1), 1);
        due.is("of another SCENT", x.dated(0, 0, 1, 0), 0);
        due.is("which is 99 off", x.dated(0, 0, 1, 1), 99);
        x.mark(0, 23, 99999);
        due.is("the most", x.dated(0, 0, 0, 1), 99999 - 477);
        x.mark(0, 23, -99999);
        due.is("the least", x.dated(0, 0, 0, 1), 99999 + 377);
    }

    private static void datedWhenGone() {
        ScentCloth x = plain(5);
        x.sheet(0, 0, 1);
        due.is("all from 5 on are alike: the least", x.dated(0, 0, 0, 0), 5);
        x.mark(0, 0, -32768);
        due.is("nothing is below 0", x.dated(0, 0, 0, 0), 5);
        due.is("the differences", x.dated(0, 0, 0, 1), 32768);
        x.sheet(0, 0, 0);
        due.is("without places", x.dated(0, 0, 0, 0), 0);
        due.is("nothing differs", x.dated(0, 0, 0, 1), 0);
        due.is("STRENGTH is as it was", x.strength(0, 0), 5);
    }

    /** "(All this is only thought, from now on, without the bound of THE DAY: nothing changes but where told.)" */
    private static void beyondTheLastDay() {
        ScentCloth x = plain(0);
        for (int i = 0; i < 167; i++) {
            x.days(60);
        }
        due.is("the last DAY", x.count(3), 9999);
        x.dab(0, 0, 12);
        x.word(1);
        due.is("behind 2", x.behind(0, 0, 2), 0);
        due.is("behind 3", x.behind(0, 0, 3), Due.NONE);
        due.is("lasts", x.lasts(0, 0, 0, 200), 3);
        due.is("whispers", x.whispers(0, 0, 200), 1);
        due.is("dumb", x.dumb(0, 0), 3);
        due.is("secret behind 2", x.secret(0, 2), 0);
        due.is("secret behind 3", x.secret(0, 3), 15);
        due.is("least", x.least(0, 0, 0, 100), 110);
        x.sheet(0, 0, 2);
        x.mark(0, 0, 9);
        x.mark(0, 1, 8);
        due.is("dated", x.dated(0, 0, 0, 0), 3);
        due.is("a letter", x.letter(0, 0, 0, 100), 110);
        x.scent(0, 0);
        x.word(2);
        x.dab(0, 1, 109);
        due.is("first", x.first(0, 0, 0), 100);
        x.turns(0, 5);
        int[] musk = {10, 11, 11, 12, 12, 13};
        for (int n = 0; n < musk.length; n++) {
            due.is("MUSK from 9999 on, for " + n, x.least(0, 0, 0, n), musk[n]);
        }
        due.is("THE DAY stays", x.count(3), 9999);
    }

    /** "of price t STRENGTHS on the CLOTH, together, n how many SCENTS are not 0" */
    private static void priceAtTheEdges() {
        ScentCloth x = plain(999, 999, 999, 999, 999, 999, 999, 999, 999);
        x.cloth();
        x.dab(1, 8, 1);
        due.is("without a TEXT: t", x.price(0), 8991);
        due.is("of 1", x.price(1), 1);
        Due.read(x, "price t*10+n");
        due.is("all nine", x.price(0), 89919);
        due.is("one", x.price(1), 11);
        x.dab(1, 8, -1);
        due.is("none", x.price(1), 0);
        ScentCloth bare = new ScentCloth();
        bare.cloth();
        due.is("without SCENTS", bare.price(0), 0);
        Due.read(bare, "price t*10+n+5");
        due.is("without SCENTS, by a TEXT", bare.price(0), 5);
    }

    /** "of lie d THE DAY, n the number of the WORD that is said (to NOSE 0; 99, if there is none)"; "without a TEXT: t; 0" */
    private static void lieAtTheEdges() {
        ScentCloth x = plain(999);
        due.is("without a TEXT", x.lie(0), 0);
        Due.read(x, "lie d*100+n");
        due.is("without a WORD", x.lie(0), 99);
        x.scent(0, 0);
        for (int w = 0; w < 11; w++) {
            x.word(2);
        }
        x.word(1);
        due.is("the last WORD", x.lie(0), 11);
        x.nose(1, 999);
        x.days(1);
        due.is("NOSE 0 tells it still", x.lie(0), 111);
        x.nose(0, 999);
        due.is("NOSE 0 does not", x.lie(0), 199);
        x.nose(0, 998);
        for (int i = 0; i < 167; i++) {
            x.days(60);
        }
        due.is("on the last DAY", x.lie(0), 999999);
    }
}
