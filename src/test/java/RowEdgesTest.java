/** Promises 46 to 50 at the edges that part 5 and they themselves name, sentence by sentence. */
public final class RowEdgesTest {
    private static final Due due = new Due();

    public static void main(String[] args) {
        sixtyWait();
        everyLength();
        firstThatIsNot();
        noneToldAtAll();
        everyCloth();
        toNoseNought();
        wordsTold();
        lastDaysOfTheImage();
        noneWaitThen();
        imageIsNotNow();
        textsComeAnew();
        lawsOfTheImage();
        fullAndEmptyAgain();
        keepTells();
        countsAtMost();
        due.end();
    }

    /** "One more number waits: how many. FULL: 60 wait." */
    private static void sixtyWait() {
        ScentCloth x = new ScentCloth();
        int[] numbers = {Integer.MIN_VALUE, Integer.MAX_VALUE, 0, -1, Due.NONE, Due.FULL};
        for (int i = 1; i <= 60; i++) {
            due.is("number " + i, x.tell(numbers[i % 6]), i);
        }
        due.is("one more", x.tell(0), Due.FULL);
        due.is("sixty wait", x.count(6), 60);
        x.check(0, 1);
        due.is("none wait", x.count(6), 0);
        due.is("one again", x.tell(0), 1);
    }

    /** One SCENT of 100 that loses 1 a DAY, with a WORD for it. */
    private static ScentCloth hundred() {
        ScentCloth x = new ScentCloth();
        x.cloth();
        x.scent(0, 0);
        x.dab(0, 0, 100);
        x.word(1);
        x.keep();
        return x;
    }

    private static void tellDays(ScentCloth x, int many) {
        for (int i = 0; i < many; i++) {
            x.tell(i % 2 == 0 ? 0 : 99 - i / 2);
        }
    }

    /** "of n (1 .. 30 ..), two by two: 0" */
    private static void everyLength() {
        for (int n = 1; n <= 30; n++) {
            ScentCloth x = hundred();
            tellDays(x, 2 * n);
            due.is(n + " DAYS", x.check(0, n), 0);
            tellDays(x, 2 * n - 1);
            due.is("one is missing of " + n, x.check(0, n), 2 * n);
            if (n < 30) {
                tellDays(x, 2 * n + 1);
                due.is("one too many for " + n, x.check(0, n), 2 * n + 1);
                tellDays(x, 60);
                due.is("sixty are too many for " + n, x.check(0, n), 2 * n + 1);
            }
        }
    }

    /** "else 1 and how many stand right ahead of the first that is not (or is missing, or one too many)" */
    private static void firstThatIsNot() {
        for (int wrong = 0; wrong < 60; wrong++) {
            ScentCloth x = hundred();
            for (int i = 0; i < 60; i++) {
                int right = i % 2 == 0 ? 0 : 99 - i / 2;
                x.tell(i == wrong ? right + 1 : right);
            }
            due.is("the first that is not: " + wrong, x.check(0, 30), wrong + 1);
            tellDays(x, wrong);
            due.is("missing: " + wrong, x.check(0, 30), wrong + 1);
            tellDays(x, wrong);
            x.tell(-1);
            x.tell(-1);
            due.is("of two the first: " + wrong, x.check(0, 30), wrong + 1);
        }
    }

    private static void noneToldAtAll() {
        ScentCloth x = hundred();
        due.is("none wait", x.check(0, 1), 1);
        due.is("none wait for thirty", x.check(0, 30), 1);
    }

    /** "NO: there is no IMAGE, or the CLOTH is not in it" */
    private static void everyCloth() {
        for (int many = 0; many <= 6; many++) {
            ScentCloth x = new ScentCloth();
            for (int c = 0; c < many; c++) {
                x.cloth();
            }
            due.is("no IMAGE", x.check(0, 1), Due.NO);
            x.keep();
            x.cloth();
            for (int c = 0; c < 6; c++) {
                x.tell(99);
                x.tell(0);
                due.is("CLOTH " + c + " of " + many, x.check(c, 1), c < many ? 0 : Due.NO);
            }
            due.is("CLOTH -1", x.check(-1, 1), Due.BAD);
            due.is("CLOTH 6", x.check(6, 1), Due.BAD);
        }
    }

    private static void toNoseNought() {
        ScentCloth x = hundred();
        x.nose(1, 999);
        x.nose(2, 1);
        x.nose(3, 999);
        x.keep();
        tellDays(x, 4);
        due.is("other NOSES do not matter", x.check(0, 2), 0);
        x.nose(0, 99);
        x.keep();
        x.tell(0);
        x.tell(99);
        x.tell(99);
        x.tell(98);
        due.is("99 is FINE, 98 is not", x.check(0, 2), 0);
    }

    /** "the WORD that it SAYS to NOSE 0 (99: none)" */
    private static void wordsTold() {
        ScentCloth x = new ScentCloth();
        x.cloth();
        x.scent(0, 0);
        x.scent(0, 0);
        x.dab(0, 0, 12);
        x.dab(0, 1, 1);
        for (int w = 0; w < 11; w++) {
            x.word(2);
        }
        x.word(1);
        x.keep();
        int[] told = {11, 11, 11, 10, 99, 9, 99, 8};
        for (int v : told) {
            x.tell(v);
        }
        due.is("the last WORD, then none", x.check(0, 4), 0);
        x.tell(Due.NONE);
        due.is("NONE is no WORD", x.check(0, 4), 1);
    }

    /** "fewer, if THE DAY would be above 9999" */
    private static void lastDaysOfTheImage() {
        ScentCloth x = new ScentCloth();
        x.cloth();
        x.scent(0, 0);
        for (int i = 0; i < 166; i++) {
            x.days(60);
        }
        x.days(36);
        for (int left = 3; left >= 0; left--) {
            due.is("THE DAY", x.count(3), 9999 - left);
            x.dab(0, 0, 9);
            x.keep();
            for (int n = 1; n <= 5; n++) {
                int days = Math.min(n, left);
                for (int day = 1; day <= days; day++) {
                    x.tell(99);
                    x.tell(9 - day);
                }
                due.is(n + " DAYS with " + left + " left", x.check(0, n), 0);
                for (int day = 1; day <= days + 1; day++) {
                    x.tell(99);
                    x.tell(9 - day);
                }
                due.is("one DAY too many", x.check(0, n), 1 + 2 * days);
            }
            x.dab(0, 0, -9);
            x.days(1);
        }
    }

    /** "(none do then, whatever is answered)" */
    private static void noneWaitThen() {
        int[][] calls = {{0, 1}, {0, 2}, {0, 0}, {0, 31}, {6, 1}, {-1, 1}, {5, 1}};
        int[] answers = {0, 3, Due.BAD, Due.BAD, Due.BAD, Due.BAD, Due.NO};
        ScentCloth x = hundred();
        for (int i = 0; i < calls.length; i++) {
            tellDays(x, 2);
            due.is("check", x.check(calls[i][0], calls[i][1]), answers[i]);
            due.is("none wait then", x.count(6), 0);
        }
    }

    /** "by THE IMAGE": what has changed since does not matter, and nothing changes by it. */
    private static void imageIsNotNow() {
        ScentCloth x = hundred();
        x.days(7);
        x.turns(0, 4);
        x.pace(0, 50);
        x.warm(0, 50);
        x.nose(0, 999);
        x.dab(0, 0, -50);
        Due.read(x, "fade s");
        tellDays(x, 60);
        due.is("right by the IMAGE", x.check(0, 30), 0);
        due.is("STRENGTH now", x.strength(0, 0), 43);
        due.is("THE DAY now", x.count(3), 7);
        due.is("back", x.back(), 1);
        due.is("STRENGTH then", x.strength(0, 0), 100);
        due.is("THE DAY then", x.count(3), 0);
        tellDays(x, 60);
        due.is("and right again", x.check(0, 30), 0);
    }

    /** "all can become as it is (again and again)": a TEXT that takes a lost one's number has nothing of it. */
    private static void textsComeAnew() {
        String[] lost = {"lie !1", "lie 1+2", "lie !!!d", "lie (1-2)*3", "lie 1+2*3-4/5&6|!7", "price t*n", "fade 0-s"};
        for (String text : lost) {
            ScentCloth x = new ScentCloth();
            x.cloth();
            x.keep();
            due.is("'" + text + "'", Due.read(x, text), 0);
            x.back();
            due.is("it is gone", x.textTold(0, 0), Due.BAD);
            due.is("its number comes again", Due.read(x, "lie 5"), 0);
            due.is("'lie 5' behind '" + text + "'", x.lie(0), 5);
            due.is("one NUMBER", x.textTold(0, 1), 1);
            due.is("of KEY lie", x.textTold(0, 0), 2);
            due.is("none of fade", x.why(0), Due.NONE);
            due.is("none of price", x.why(1), Due.NONE);
        }
    }

    /** "THE DAYS TOLD of a CLOTH: .. by THE IMAGE": by the fade that counts in it, whatever TEXTS came and went since. */
    private static void lawsOfTheImage() {
        ScentCloth x = new ScentCloth();
        x.cloth();
        x.scent(0, 50);
        x.dab(0, 0, 100);
        x.word(1);
        Due.read(x, "fade 1");
        x.keep();
        Due.read(x, "fade s");
        tellDays(x, 60);
        due.is("a later fade does not matter", x.check(0, 30), 0);
        x.back();
        Due.read(x, "fade !s*9");
        tellDays(x, 60);
        due.is("nor one that took its number", x.check(0, 30), 0);
        due.is("which counts now", x.loses(0, 0), 0);
        x.keep();
        tellDays(x, 2);
        due.is("and in the next IMAGE", x.check(0, 1), 2);
    }

    /** What was FULL has room again behind back, up to the same bound. */
    private static void fullAndEmptyAgain() {
        ScentCloth x = new ScentCloth();
        x.keep();
        for (int again = 0; again < 3; again++) {
            due.is("nine SCENTS", x.deal(9), 9);
            due.is("no tenth", x.scent(0, 0), Due.FULL);
            for (int i = 0; i < 6; i++) {
                due.is("CLOTH " + i, x.cloth(), i);
            }
            due.is("no seventh", x.cloth(), Due.FULL);
            for (int i = 0; i < 12; i++) {
                due.is("WORD " + i, x.word(511), i);
            }
            due.is("no thirteenth", x.word(511), Due.FULL);
            for (int i = 0; i < 14; i++) {
                due.is("TEXT " + i, Due.read(x, "lie " + i), i);
            }
            due.is("no fifteenth", Due.read(x, "lie 1"), Due.FULL);
            due.is("back to nothing", x.back(), 0);
            due.is("no SCENTS, so no WORD", x.word(1), Due.BAD);
            due.is("no TEXTS", x.why(2), Due.NONE);
            due.is("z as it was", x.count(8), 1);
        }
    }

    /** "AN IMAGE is kept: how many CLOTHS."; "All is as THE IMAGE: how many CLOTHS. NO: there is none." */
    private static void keepTells() {
        ScentCloth x = new ScentCloth();
        due.is("there is none", x.back(), Due.NO);
        for (int many = 0; many <= 6; many++) {
            due.is("keep of " + many, x.keep(), many);
            x.cloth();
            due.is("back to " + many, x.back(), many);
            due.is("CLOTHS", x.count(1), many);
            due.is("and again", x.back(), many);
            x.cloth();
        }
    }

    /** "How many: 0 SCENTS, 1 CLOTHS, 2 WORDS, 3 THE DAY, 4 STRENGTHS of all CLOTHS, together, .." */
    private static void countsAtMost() {
        ScentCloth x = new ScentCloth();
        due.is("no STRENGTHS", x.count(4), 0);
        x.deal(9);
        for (int c = 0; c < 6; c++) {
            x.cloth();
            for (int s = 0; s < 9; s++) {
                x.dab(c, s, 999);
            }
        }
        due.is("all STRENGTHS", x.count(4), 53946);
        x.seed(Integer.MIN_VALUE);
        due.is("z", x.count(8), Integer.MIN_VALUE);
        due.is("what 9", x.count(9), Due.BAD);
        due.is("what -1", x.count(-1), Due.BAD);
    }
}
