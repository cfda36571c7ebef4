/** Promises 46 to 50: rows that are checked, images. */
public final class RowsTest {
    private static final Due due = new Due();

    public static void main(String[] args) {
        tell();
        check();
        checkRefused();
        checkByImage();
        checkLastDays();
        checkLongest();
        keepAndBack();
        imageKeepsNot();
        imageTexts();
        count();
        due.end();
    }

    private static void tellAll(ScentCloth x, int... numbers) {
        for (int v : numbers) {
            x.tell(v);
        }
    }

    private static void tell() {
        ScentCloth x = new ScentCloth();
        for (int i = 1; i <= 60; i++) {
            due.is("tell " + i, x.tell(-i), i);
        }
        due.is("one more", x.tell(0), Due.FULL);
        due.is("sixty", x.count(6), 60);
    }

    /** Strength 12: 11 and 10 are word 0, then there is none. */
    private static ScentCloth twelve() {
        ScentCloth x = new ScentCloth();
        x.cloth();
        x.scent(0, 0);
        x.dab(0, 0, 12);
        x.word(1);
        x.keep();
        return x;
    }

    private static void check() {
        ScentCloth x = twelve();
        tellAll(x, 0, 11, 0, 10, 99, 9);
        due.is("right", x.check(0, 3), 0);
        due.is("none wait then", x.count(6), 0);
        int[] right = {0, 11, 0, 10, 99, 9};
        for (int wrong = 0; wrong < 6; wrong++) {
            for (int i = 0; i < 6; i++) {
                x.tell(i == wrong ? 77 : right[i]);
            }
            due.is("wrong at " + wrong, x.check(0, 3), wrong + 1);
            tellAll(x, java.util.Arrays.copyOf(right, wrong));
            due.is("missing at " + wrong, x.check(0, 3), wrong + 1);
        }
        tellAll(x, right);
        x.tell(99);
        due.is("one too many", x.check(0, 3), 7);
        tellAll(x, right);
        tellAll(x, 99, 8);
        due.is("two too many", x.check(0, 3), 7);
        tellAll(x, 0, 77, 0, 77);
        due.is("the first counts", x.check(0, 3), 2);
        due.is("nothing changed", x.strength(0, 0), 12);
        due.is("no day has gone", x.count(3), 0);
        due.is("the image stays", x.back(), 1);
    }

    private static void checkRefused() {
        ScentCloth x = new ScentCloth();
        x.tell(1);
        due.is("no image", x.check(0, 1), Due.NO);
        due.is("none wait then", x.count(6), 0);
        x.tell(1);
        due.is("bad before no image", x.check(0, 0), Due.BAD);
        due.is("none wait then, too", x.count(6), 0);
        x.keep();
        x.cloth();
        x.tell(1);
        due.is("a cloth that is not in it", x.check(0, 1), Due.NO);
        due.is("none wait after that", x.count(6), 0);
        due.is("cloth 5", x.check(5, 1), Due.NO);
        due.is("cloth 6", x.check(6, 1), Due.BAD);
        due.is("cloth -1", x.check(-1, 1), Due.BAD);
        due.is("n 31", x.check(0, 31), Due.BAD);
        due.is("n -1", x.check(0, -1), Due.BAD);
        x.keep();
        due.is("now it is", x.check(0, 30), 1);
    }

    private static void checkByImage() {
        ScentCloth x = twelve();
        x.days(5);
        x.pace(0, 50);
        x.nose(0, 1);
        x.word(1);
        Due.read(x, "fade 0");
        tellAll(x, 0, 11, 0, 10, 99, 9);
        due.is("as the image has it", x.check(0, 3), 0);
        x.nose(1, 999);
        x.keep();
        tellAll(x, 0, 7);
        due.is("as the new image has it", x.check(0, 1), 0);
        x.turns(0, 5);
        Due.read(x, "fade 1");
        x.keep();
        tellAll(x, 0, 6, 0, 6, 0, 5);
        due.is("musk from day 5 on", x.check(0, 3), 0);
    }

    private static void checkLastDays() {
        ScentCloth x = new ScentCloth();
        x.cloth();
        for (int i = 0; i < 166; i++) {
            x.days(60);
        }
        x.days(37);
        x.keep();
        x.days(1);
        tellAll(x, 99, 0, 99, 0);
        due.is("two days are left by the image", x.check(0, 30), 0);
        tellAll(x, 99, 0, 99, 0, 99, 0);
        due.is("no third one", x.check(0, 3), 5);
        x.days(1);
        x.keep();
        due.is("none is left", x.check(0, 1), 0);
        x.tell(99);
        due.is("one too many then", x.check(0, 1), 1);
    }

    private static void checkLongest() {
        ScentCloth x = new ScentCloth();
        x.cloth();
        x.scent(0, 0);
        x.scent(0, 0);
        x.dab(0, 0, 500);
        x.dab(0, 1, 25);
        x.word(1);
        x.word(3);
        x.keep();
        for (int day = 1; day <= 30; day++) {
            x.tell(25 - day >= 10 ? 1 : 0);
            x.tell(500 - day + Math.max(0, 25 - day));
        }
        due.is("thirty days", x.check(0, 30), 0);
        for (int day = 1; day <= 30; day++) {
            x.tell(25 - day >= 10 ? 1 : 0);
            x.tell(500 - day + Math.max(0, 25 - day));
        }
        due.is("of twenty-nine, one is too many", x.check(0, 29), 59);
    }

    private static void keepAndBack() {
        ScentCloth x = new ScentCloth();
        due.is("no image", x.back(), Due.NO);
        x.cloth();
        x.cloth();
        x.scent(1, 30);
        x.scent(2, 31);
        x.hide(0, 1, 1);
        x.nose(2, 77);
        x.word(3);
        x.seed(99);
        x.dab(1, 0, 600);
        x.warm(1, 9);
        x.days(4);
        int left = x.strength(1, 0);
        due.is("keep", x.keep(), 2);
        for (int again = 0; again < 2; again++) {
            x.cloth();
            x.turns(0, 5);
            x.pace(1, 2);
            x.hide(1, 0, 1);
            x.hide(0, 1, 0);
            x.nose(2, 3);
            x.deal(9);
            x.word(1);
            x.dab(1, 0, 50);
            x.dab(2, 8, 50);
            x.warm(1, 10);
            x.warm(2, 10);
            x.days(9);
            due.is("back", x.back(), 2);
            due.is("scents", x.count(0), 2);
            due.is("cloths", x.count(1), 2);
            due.is("words", x.count(2), 1);
            due.is("the day", x.count(3), 4);
            due.is("z", x.count(8), 99);
            due.is("kind", x.told(0, 0), 1);
            due.is("pace", x.told(1, 1), 31);
            due.is("what it hides", x.told(0, 3), 2);
            due.is("what the other one hides", x.told(1, 3), 0);
            due.is("strength", x.strength(1, 0), left);
            due.is("all strengths", x.count(4), left);
            due.is("warm", x.warm(1, 9), 9);
            due.is("fine", x.nose(2, 77), 77);
            due.is("the word", x.wordOf(0), 3);
        }
        due.is("one more cloth", x.cloth(), 2);
        due.is("is not warm", x.warm(2, 0), 0);
        x.scent(0, 0);
        due.is("nor does one more scent smell", x.strength(2, 2), 0);
        due.is("nor hide", x.told(2, 3), 0);
        due.is("a new image", x.keep(), 3);
        due.is("back to it", x.back(), 3);
    }

    private static void imageKeepsNot() {
        ScentCloth x = new ScentCloth();
        x.keep();
        x.sheet(0, 0, 3);
        x.mark(0, 1, 5);
        x.lay(0, 3, 8);
        x.tell(1);
        x.feed(0, 0, 0);
        x.back();
        due.is("the sheet stays", x.copy(0, 0, 0, 0, 3), 3);
        due.is("its place, too", x.lay(1, 2, 0) + x.item(1, 1), 5);
        due.is("the slot stays", x.rest(0, 10), 8);
        due.is("the number waits", x.count(6), 1);
        due.is("the tape stays", x.count(7), 12);
    }

    private static void imageTexts() {
        ScentCloth x = new ScentCloth();
        x.cloth();
        Due.read(x, "lie 5");
        x.keep();
        Due.read(x, "lie 6");
        Due.read(x, "price 7");
        x.back();
        due.is("texts", x.count(5), 1);
        due.is("the one that counts", x.why(2), 0);
        due.is("none of price", x.why(1), Due.NONE);
        due.is("lie", x.lie(0), 5);
        due.is("no second text", x.textTold(1, 0), Due.BAD);
        due.is("the next number", Due.read(x, "price 8+1"), 1);
        due.is("its key", x.textTold(1, 0), 1);
        due.is("its numbers", x.textTold(1, 1), 2);
        due.is("price", x.price(0), 9);
        x.keep();
        Due.read(x, "price 10");
        x.back();
        due.is("price again", x.price(0), 9);
    }

    private static void count() {
        ScentCloth x = new ScentCloth();
        x.deal(4);
        x.cloth();
        x.cloth();
        x.cloth();
        x.word(1);
        x.word(1);
        x.days(6);
        x.dab(0, 0, 999);
        x.dab(1, 1, 999);
        x.dab(2, 2, 3);
        Due.read(x, "lie 1");
        x.tell(4);
        x.feed(1, 2, 3);
        x.trim(7);
        int z = x.seed(-8);
        due.is("eight draws changed z", z == 1 ? 0 : 1, 1);
        int[] want = {4, 3, 2, 6, 2001, 1, 1, 7, -8};
        for (int what = 0; what < 9; what++) {
            due.is("count(" + what + ")", x.count(what), want[what]);
        }
        due.is("count(9)", x.count(9), Due.BAD);
        due.is("count(-1)", x.count(-1), Due.BAD);
    }
}
