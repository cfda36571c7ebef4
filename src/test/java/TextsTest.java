/** Promises 33 to 37: the tape, texts. */
public final class TextsTest {
    private static final Due due = new Due();

    public static void main(String[] args) {
        feed();
        trim();
        faults();
        blanks();
        depths();
        full();
        usesUp();
        values();
        order();
        names();
        textTold();
        why();
        due.end();
    }

    private static void feed() {
        ScentCloth x = new ScentCloth();
        for (int i = 1; i <= 8; i++) {
            due.is("feed " + i, x.feed(0x20202020, 0x20202020, 0x20202020), 12 * i);
        }
        due.is("a ninth", x.feed(0, 0, 0), Due.FULL);
        due.is("96", x.count(7), 96);
        x.trim(85);
        due.is("85 and 12 are too many", x.feed(0, 0, 0), Due.FULL);
        x.trim(84);
        due.is("84 and 12 are not", x.feed(0, 0, 0), 96);
        x.trim(0);
        x.feed(0x6c696520, 0x64202d20, 0x32202a6e);
        due.is("'lie d - 2 *n', the highest first", x.text(), 0);
        x.cloth();
        x.days(7);
        due.is("7 less 2 times 99", x.lie(0), -191);
    }

    private static void trim() {
        ScentCloth x = new ScentCloth();
        due.is("trim(0) of nothing", x.trim(0), 0);
        due.is("trim(1) of nothing", x.trim(1), Due.BAD);
        x.feed(0x6c696520, 0x64202d20, 0x32202a6e);
        due.is("trim(13)", x.trim(13), Due.BAD);
        due.is("trim(-1)", x.trim(-1), Due.BAD);
        due.is("trim(12)", x.trim(12), 12);
        due.is("trim(5)", x.trim(5), 5);
        due.is("trim(6)", x.trim(6), Due.BAD);
        due.is("five", x.count(7), 5);
        due.is("the first five: 'lie d'", x.text(), 0);
    }

    private static void fault(String text, int place) {
        ScentCloth x = new ScentCloth();
        due.is("'" + text + "'", Due.read(x, text), -100 - place);
        due.is("no text of '" + text + "'", x.count(5), 0);
        due.is("tape used up by '" + text + "'", x.count(7), 0);
    }

    private static void good(String text) {
        ScentCloth x = new ScentCloth();
        due.is("'" + text + "'", Due.read(x, text), 0);
        due.is("tape used up by '" + text + "'", x.count(7), 0);
    }

    private static void faults() {
        fault("", 0);
        fault("   ", 3);
        fault("fade", 4);
        fault("fade  ", 6);
        fault("fades s", 0);
        fault("fadez", 0);
        fault("jade s", 0);
        fault("lies d", 0);
        fault("pie d", 0);
        fault("fadea", 0);
        fault("fade s0", 6);
        fault("fade s9", 6);
        fault(" fad s", 1);
        fault("Fade s", 0);
        fault("s", 0);
        fault("5 s", 0);
        fault("(fade s)", 0);
        fault("fade fade s", 5);
        fault("fade5", 4);
        fault("fade 5s", 6);
        fault("fade s5", 6);
        fault("fade s 5", 7);
        fault("fade s s", 7);
        fault("fade ss", 5);
        fault("fade 12345", 5);
        fault("fade 00001", 5);
        fault("fade x", 5);
        fault("fade S", 5);
        fault("fade s+", 7);
        fault("fade s+ ", 8);
        fault("fade s++p", 7);
        fault("fade -s", 5);
        fault("fade s-!", 8);
        fault("fade s!", 6);
        fault("fade !", 6);
        fault("fade (", 6);
        fault("fade (s", 7);
        fault("fade (s  ", 9);
        fault("fade ()", 6);
        fault("fade s)", 6);
        fault("fade (s))", 8);
        fault("fade s<p<w", 8);
        fault("fade s<p=w", 8);
        fault("fade s = = p", 9);
        fault("fade s<=p", 7);
        fault("fade (s>p>w)", 9);
        fault("fade s&&p", 7);
        fault("fade s||p", 7);
        fault("fade s(p)", 6);
        fault("fade s.p", 6);
        fault("fade s\tp", 6);
        fault("fade s" + (char) 200, 6);
        fault("fade s" + (char) 0, 6);
        fault("fade s" + (char) 255, 6);
        fault("price s", 6);
        fault("price d", 6);
        fault("lie t", 4);
        fault("fade n", 5);
        fault("fade t", 5);
        fault("fade {s}", 5);
        fault("fade `", 5);
        fault("fade :", 5);
    }

    private static void blanks() {
        good("fade(s)");
        good("fade!s");
        good("  fade   ( s )  ");
        good("fade s<p&s=w|p>w");
        good("fade s<p&p<w");
        good("fade (s<p)<w");
        good("fade s*p/w+s-p");
        good("fade 9999");
        good("fade 0000");
        good("price t+n");
        good("lie d+n");
        StringBuilder longest = new StringBuilder("fade s");
        while (longest.length() + 2 <= 96) {
            longest.append("+s");
        }
        good(longest.toString());
        fault(longest.substring(0, 95), 95);
    }

    private static String many(String what, int n) {
        return what.repeat(n);
    }

    private static void depths() {
        good("fade " + many("(", 8) + "s" + many(")", 8));
        fault("fade " + many("(", 9) + "s" + many(")", 9), 13);
        good("fade " + many("!", 8) + "s");
        fault("fade " + many("!", 9) + "s", 13);
        good("fade " + many("!(", 8) + "s" + many(")", 8));
        fault("fade " + many("!(", 8) + "!s" + many(")", 8), 21);
        fault("fade " + many("!(", 8) + "(s)" + many(")", 8), 21);
        fault("fade " + many("(!", 8) + "(s)" + many(")", 8), 21);
        fault("fade " + many("!", 4) + "(" + many("!", 5) + "s)", 14);
        good("fade " + many("!", 8) + "s+" + many("!", 8) + "(s)*(" + many("!", 8) + "s)");
        good("fade " + many("(", 8) + "s" + many(")", 8) + "+" + many("(", 8) + "s" + many(")", 8));
        good("fade " + many("(", 4) + many("!", 8) + "(s)" + many(")", 4));
        fault("fade " + many("!(", 4) + "s" + many(")", 3), 17);
    }

    private static void full() {
        ScentCloth x = new ScentCloth();
        for (int i = 0; i < 14; i++) {
            due.is("text " + i, Due.read(x, "lie " + i), i);
        }
        due.is("a fifteenth", Due.read(x, "lie 14"), Due.FULL);
        due.is("tape used up", x.count(7), 0);
        due.is("a fifteenth with a fault", Due.read(x, "lie s"), -104);
        due.is("fourteen", x.count(5), 14);
        due.is("the last one counts", x.why(2), 13);
    }

    private static void usesUp() {
        ScentCloth x = new ScentCloth();
        due.is("an empty tape", x.text(), -100);
        Due.read(x, "lie 5");
        due.is("once more, without bytes", x.text(), -100);
        x.feed(0x6c696520, 0x352b3939, 0x39393939);
        x.trim(6);
        due.is("'lie 5+', digits trimmed away", x.text(), -106);
        x.feed(0x6c696520, 0x352b3939, 0x39393939);
        x.trim(7);
        due.is("'lie 5+9', digits trimmed away", x.text(), 1);
        x.cloth();
        due.is("5 and 9", x.lie(0), 14);
        x.feed(0x6c696520, 0x35202020, 0x29292929);
        x.trim(6);
        due.is("'lie 5 ', brackets trimmed away", x.text(), 2);
    }

    /** What a lie gives on day 7 with no word said. */
    private static void value(String e, int want) {
        ScentCloth x = new ScentCloth();
        x.cloth();
        x.days(7);
        due.is("'lie " + e + "' is a text", Due.read(x, "lie " + e), 0);
        due.is("lie " + e, x.lie(0), want);
    }

    private static void values() {
        value("12", 12);
        value("0007", 7);
        value("d", 7);
        value("n", 99);
        value("d+n", 106);
        value("d-n", -92);
        value("d*n", 693);
        value("n/d", 14);
        value("(0-n)/d", -14);
        value("n/(0-d)", -14);
        value("n/0", 0);
        value("0/0", 0);
        value("d<n", 1);
        value("n<d", 0);
        value("d<7", 0);
        value("d=7", 1);
        value("d=8", 0);
        value("d>6", 1);
        value("d>7", 0);
        value("5&0", 0);
        value("5&2", 1);
        value("0&0", 0);
        value("5|0", 1);
        value("0|2", 1);
        value("0|0", 0);
        value("!0", 1);
        value("!5", 0);
        value("!!5", 1);
        value("!(0-1)", 0);
        value("9999*9999*9999", 9999 * 9999 * 9999);
        value("0-2048*1024*1024-0", Integer.MIN_VALUE);
        value("(0-2048*1024*1024)/(0-1)", Integer.MIN_VALUE);
        value("2048*1024*1024-1", Integer.MAX_VALUE);
    }

    private static void order() {
        value("2+3*4", 14);
        value("(2+3)*4", 20);
        value("20-3-4", 13);
        value("20-(3-4)", 21);
        value("100/5/2", 10);
        value("100/(5/2)", 50);
        value("100/7*7", 98);
        value("7*100/7", 100);
        value("1+2<4", 1);
        value("4<1+2", 0);
        value("1<2&3", 1);
        value("0|1&0", 0);
        value("1|1&0", 1);
        value("(1|1)&0", 0);
        value("1&0|1", 1);
        value("!0+5", 6);
        value("!5*5", 0);
        value("!(5-5)", 1);
        value("5=5=0|0-1".substring(0, 3), 1);
        value("2=1+1&3>2|0", 1);
        value("3-!0-1", 1);
        value("((((((((d))))))))", 7);
        value("!(!(!(!(!(!(!(!(d))))))))", 1);
    }

    private static void names() {
        ScentCloth x = new ScentCloth();
        x.cloth();
        x.scent(0, 7);
        x.warm(0, 3);
        x.dab(0, 0, 900);
        Due.read(x, "fade p*10+w");
        due.is("pace and warm", x.loses(0, 0), 73);
        Due.read(x, "fade s-2");
        due.is("strength", x.loses(0, 0), 898);
        Due.read(x, "price t+n*1000");
        due.is("strengths and how many", x.price(0), 1900);
        Due.read(x, "fade 0");
        due.is("0 is a number, no name", x.loses(0, 0), 0);
    }

    private static void textTold() {
        ScentCloth x = new ScentCloth();
        Due.read(x, "price t");
        Due.read(x, "lie d+n*(3-d)/12|!4");
        Due.read(x, "fade (s)");
        due.is("key of price", x.textTold(0, 0), 1);
        due.is("one name", x.textTold(0, 1), 1);
        due.is("key of lie", x.textTold(1, 0), 2);
        due.is("six", x.textTold(1, 1), 6);
        due.is("key of fade", x.textTold(2, 0), 0);
        due.is("one", x.textTold(2, 1), 1);
        due.is("textTold(3, 0)", x.textTold(3, 0), Due.BAD);
        due.is("textTold(-1, 0)", x.textTold(-1, 0), Due.BAD);
        due.is("textTold(0, 2)", x.textTold(0, 2), Due.BAD);
        due.is("textTold(0, -1)", x.textTold(0, -1), Due.BAD);
    }

    private static void why() {
        ScentCloth x = new ScentCloth();
        x.cloth();
        Due.read(x, "lie 1");
        due.is("why(2)", x.why(2), 0);
        due.is("why(0)", x.why(0), Due.NONE);
        due.is("why(1)", x.why(1), Due.NONE);
        Due.read(x, "price 2");
        Due.read(x, "lie 3");
        Due.read(x, "lie 4 4");
        due.is("the last one told", x.why(2), 2);
        due.is("it counts", x.lie(0), 3);
        due.is("of price", x.why(1), 1);
        due.is("price counts", x.price(0), 2);
        due.is("why(3)", x.why(3), Due.BAD);
        due.is("why(-1)", x.why(-1), Due.BAD);
    }
}
