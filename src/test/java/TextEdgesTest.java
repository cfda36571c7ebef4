/** Promises 33 to 37 at the edges that part 4 names, sentence by sentence. */
public final class TextEdgesTest {
    private static final Due due = new Due();
    private static final String[] KEYS = {"fade", "price", "lie"};
    private static final String[] NAMES = {"spw", "tn", "dn"};

    public static void main(String[] args) {
        everyByteAtFirst();
        everyByteForAPiece();
        everyByteBehindAPiece();
        namesOfEachKey();
        keys();
        wordsAndBlanks();
        numbers();
        tooSoon();
        wholeTape();
        nested();
        countedByItself();
        oneTest();
        feedBytes();
        trimEdges();
        usedUp();
        fourteen();
        toldLast();
        leaves();
        intsWrap();
        trueAndFalse();
        bothSides();
        due.end();
    }

    /** A place below 0: there is no FAULT. */
    private static void read(String text, int fault) {
        ScentCloth x = new ScentCloth();
        due.is("'" + text + "'", Due.read(x, text), fault < 0 ? 0 : -100 - fault);
        due.is("TEXTS behind '" + text + "'", x.count(5), fault < 0 ? 1 : 0);
        due.is("the tape behind '" + text + "'", x.count(7), 0);
    }

    private static void everyByteAtFirst() {
        for (int b = 0; b < 256; b++) {
            read(String.valueOf((char) b), b == ' ' ? 1 : 0);
            read((char) b + "lie d", b == ' ' ? -1 : 0);
        }
    }

    private static void everyByteForAPiece() {
        for (int b = 0; b < 256; b++) {
            boolean leaf = b >= '0' && b <= '9' || "spw".indexOf(b) >= 0;
            boolean goesOn = " !(".indexOf(b) >= 0;
            read("fade " + (char) b, leaf ? -1 : goesOn ? 6 : 5);
            read("fade(" + (char) b, leaf || goesOn ? 6 : 5);
        }
    }

    /** A letter makes one word with the s ahead of it; a digit is a word that needs a blank. */
    private static void everyByteBehindAPiece() {
        for (int b = 0; b < 256; b++) {
            boolean letter = b >= 'a' && b <= 'z';
            boolean sign = "|&<=>+-*/".indexOf(b) >= 0;
            read("fade s" + (char) b, b == ' ' ? -1 : letter ? 5 : sign ? 7 : 6);
            read("fade s " + (char) b, b == ' ' ? -1 : sign ? 8 : 7);
            read("fade s" + (char) b + "p", sign ? -1 : b == ' ' ? 7 : letter ? 5 : 6);
        }
    }

    /** "NAMES, each one letter" */
    private static void namesOfEachKey() {
        for (int key = 0; key < 3; key++) {
            for (char c = 'a'; c <= 'z'; c++) {
                String text = KEYS[key] + " " + c;
                read(text, NAMES[key].indexOf(c) >= 0 ? -1 : KEYS[key].length() + 1);
                read(text + c, KEYS[key].length() + 1);
            }
        }
    }

    /** "KEY: fade | price | lie" */
    private static void keys() {
        for (String key : KEYS) {
            read(key + " 1", -1);
            read(key + "(1)", -1);
            read(key + "!1", -1);
            read("  " + key + " 1  ", -1);
            read(key, key.length());
            read(key + "   ", key.length() + 3);
            read(key + "1", key.length());
            read(key + "s", 0);
            read(key + key + " 1", 0);
            read("s" + key + " 1", 0);
            read(key.substring(1) + " 1", 0);
            read(key.substring(0, key.length() - 1) + " 1", 0);
            read(key.substring(0, 2) + " " + key.substring(2) + " 1", 0);
            read(key.toUpperCase() + " 1", 0);
            read(key + " " + key, key.length() + 1);
            read("1 " + key, 0);
        }
    }

    /** "Between words and signs, and at the ends, there may be blanks (byte 32); a word right behind another one needs one." */
    private static void wordsAndBlanks() {
        read("fade s+p", -1);
        read("   fade   !   (   s   +   p   )   *   9   ", -1);
        read("fade 1s", 6);
        read("fade s1", 6);
        read("fade 1 s", 7);
        read("fade s 1", 7);
        read("fade 1 2", 7);
        read("fade 12 s", 8);
        read("fade 1234s", 9);
        read("fade s+1p", 8);
        read("fade s+p1", 8);
        read("fade (s)p", 8);
        read("fade (s)1", 8);
        read("fade (s) p", 9);
        read("fade s(p)", 6);
        read("fade s!p", 6);
        read("fade(s)+(p)", -1);
        read("lie1+d", 3);
        read("lie d\n", 5);
        read("lie\td", 3);
    }

    /** "NUMBER (1 to 4 digits)"; FAULT: "a NUMBER of more than 4 digits" */
    private static void numbers() {
        for (String number : new String[] {"0", "9", "00", "0000", "9999", "0009"}) {
            read("lie " + number, -1);
            ScentCloth x = new ScentCloth();
            x.cloth();
            Due.read(x, "lie " + number);
            due.is("what " + number + " is", x.lie(0), Integer.parseInt(number));
        }
        read("lie 00000", 4);
        read("lie 10000", 4);
        read("lie 99999", 4);
        read("lie 12345 6", 4);
        read("lie 12345d", 4);
        read("lie 1+12345", 6);
        read("lie (((00001)))", 7);
        read("lie 12 345", 7);
        read("lie -1", 4);
        read("lie 1.5", 5);
        read("lie 4294967297", 4);
    }

    /** "the end (the place behind the last byte), if it comes too soon" */
    private static void tooSoon() {
        read("", 0);
        read(" ", 1);
        read("f", 0);
        read("fade (s", 7);
        read("fade (s ", 8);
        read("fade ((s)", 9);
        read("fade s*", 7);
        read("fade s<", 7);
        read("fade !", 6);
        read("fade ! ", 7);
        read("fade (", 6);
        read("fade s&(p|", 10);
    }

    private static String filled(String text, char with) {
        return text + String.valueOf(with).repeat(96 - text.length());
    }

    /** "THE TAPE (96 bytes at most ..)" */
    private static void wholeTape() {
        read(filled("lie d", ' '), -1);
        read(" ".repeat(91) + "lie d", -1);
        read(" ".repeat(92) + "lie ", 96);
        read(filled("", ' '), 96);
        read(filled("", 'a'), 0);
        read(filled("lie ", '1'), 4);
        read("lie " + "1+".repeat(46), 96);
        read("lie 1" + "+1".repeat(45) + "+", 96);
        read("lie 1" + "+1".repeat(45) + ")", 95);
        read("lie 1" + "+1".repeat(45) + "1", -1);
        read("lie " + "!!!!!!!!1+".repeat(9) + "!1", -1);
        read("lie " + "((((1))))+".repeat(9) + "!1", -1);
        read("lie " + "((((1))))+".repeat(9) + "(1", 96);
    }

    /** "the ninth ( that would be open within others, the ninth ! likewise" */
    private static void nested() {
        for (int depth = 1; depth <= 12; depth++) {
            read("lie " + "(".repeat(depth) + "d" + ")".repeat(depth), depth <= 8 ? -1 : 12);
            read("lie " + "!".repeat(depth) + "d", depth <= 8 ? -1 : 12);
            read("lie 1+" + "(".repeat(depth) + "d" + ")".repeat(depth), depth <= 8 ? -1 : 14);
            read("lie " + "(".repeat(depth), depth <= 8 ? 4 + depth : 12);
            read("lie " + "!".repeat(depth), depth <= 8 ? 4 + depth : 12);
            read("lie " + "( ".repeat(depth), depth <= 8 ? 4 + 2 * depth : 20);
        }
        read("lie " + "(".repeat(8) + "1" + ")".repeat(7) + "+(1))", -1);
        read("lie " + "(".repeat(8) + "1+(1)" + ")".repeat(8), 14);
        read("lie " + "(".repeat(7) + "1+(1)*(1)" + ")".repeat(7), -1);
        read("lie " + "(1)+".repeat(20) + "(1)", -1);
        read("lie " + "!1+".repeat(20) + "!1", -1);
        read("lie !!!!!!!!1+!!!!!!!!1", -1);
        read("lie !!!!!!!!(1+!1)", 15);
        read("lie !!!!!!!!(1)+!1", -1);
    }

    /** "each counted by itself, also through the other one between" */
    private static void countedByItself() {
        read("lie " + "!(".repeat(8) + "d" + ")".repeat(8), -1);
        read("lie " + "(!".repeat(8) + "d" + ")".repeat(8), -1);
        read("lie " + "!(".repeat(8) + "!d" + ")".repeat(8), 20);
        read("lie " + "!(".repeat(8) + "(d)" + ")".repeat(8), 20);
        read("lie " + "(!".repeat(8) + "!d" + ")".repeat(8), 20);
        read("lie " + "(!".repeat(8) + "(d)" + ")".repeat(8), 20);
        read("lie !!!!(((!!!!((((!d)))))))", 19);
        read("lie !!!!(((!!!!(((((d))))))))", -1);
        read("lie !!!!(((!!!!((((((d)))))))))", 20);
        read("lie " + "(".repeat(8) + "!!!!!!!!d" + ")".repeat(8), -1);
        read("lie " + "!!!!!!!!" + "(".repeat(8) + "d" + ")".repeat(8), -1);
        read("lie !(!(!(!(!(!(!(!(1)))))))+!1)", -1);
        read("lie !(!(!(!(!(!(!(!(1)+!1)))))))", -1);
        read("lie !(!(!(!(!(!(!(!(1+!1))))))))", 22);
    }

    /** "TEST: SUM [ (< | = | >) SUM ]" */
    private static void oneTest() {
        for (char a : "<=>".toCharArray()) {
            read("lie 1" + a + "1", -1);
            for (char b : "<=>".toCharArray()) {
                read("lie 1" + a + "1" + b + "1", 7);
                read("lie 1" + a + b + "1", 6);
                read("lie (1" + a + "1)" + b + "1", -1);
                read("lie 1" + a + "(1" + b + "1)", -1);
                read("lie 1" + a + "1&1" + b + "1", -1);
                read("lie 1" + a + "1|1" + b + "1", -1);
                read("lie 1" + a + "1+1" + b + "1", 9);
            }
        }
    }

    /** "Twelve bytes come to THE TAPE, the highest of each number first: how many it has. FULL: it would have more than 96." */
    private static void feedBytes() {
        for (int high : new int[] {0x80, 0xe9, 0xff, 0x7f, 0x00}) {
            ScentCloth x = new ScentCloth();
            due.is("twelve", x.feed(0x6c696520, 0x31202020, high << 24), 12);
            due.is("byte " + high + " is the ninth", x.text(), -108);
            x.feed(0x6c696520, 0x31202020, 0x20202000 | high);
            due.is("byte " + high + " is the twelfth", x.text(), -111);
        }
        ScentCloth x = new ScentCloth();
        due.is("-1", x.feed(-1, -1, -1), 12);
        due.is("its first byte is 255", x.text(), -100);
        for (int left = 84; left <= 96; left++) {
            ScentCloth y = new ScentCloth();
            for (int i = 0; i < 8; i++) {
                y.feed(0, 0, 0);
            }
            y.trim(left);
            due.is(left + " and twelve", y.feed(1, 2, 3), left == 84 ? 96 : Due.FULL);
            due.is("bytes then", y.count(7), left == 84 ? 96 : left);
        }
    }

    /** "THE TAPE keeps its first n bytes: n." */
    private static void trimEdges() {
        ScentCloth x = new ScentCloth();
        x.feed(0x6c696520, 0x312b312b, 0x312b312b);
        due.is("as many as there are", x.trim(12), 12);
        due.is("one more", x.trim(13), Due.BAD);
        due.is("the most", x.trim(Integer.MAX_VALUE), Due.BAD);
        due.is("the least", x.trim(Integer.MIN_VALUE), Due.BAD);
        due.is("the first eleven", x.trim(11), 11);
        due.is("what is gone is gone", x.trim(12), Due.BAD);
        due.is("'lie 1+1+1+1'", x.text(), 0);
        due.is("four numbers", x.textTold(0, 1), 4);
        x.feed(0, 0, 0);
        due.is("nothing is kept", x.trim(0), 0);
        due.is("the end at once", x.text(), -100);
    }

    /** "an act that reads it uses it up, whatever it answers" */
    private static void usedUp() {
        ScentCloth x = new ScentCloth();
        for (int i = 0; i < 15; i++) {
            due.is("text " + i, Due.read(x, "lie 1"), i < 14 ? i : Due.FULL);
            due.is("used up by it", x.count(7), 0);
            due.is("so there is none", x.text(), -100);
        }
        due.is("a FAULT ahead of FULL", Due.read(x, "lie 1 1"), -106);
        due.is("used up, too", x.count(7), 0);
    }

    /** "TEXTS, 14 at most, numbered from 0" */
    private static void fourteen() {
        ScentCloth x = new ScentCloth();
        x.cloth();
        for (int i = 0; i < 14; i++) {
            due.is("no TEXT " + i + " yet", x.textTold(i, 0), Due.BAD);
            due.is("TEXT " + i, Due.read(x, KEYS[i % 3] + " " + i), i);
            due.is("its KEY", x.textTold(i, 0), i % 3);
            due.is("counts", x.why(i % 3), i);
        }
        due.is("a fifteenth", Due.read(x, "lie 77"), Due.FULL);
        due.is("does not count", x.why(2), 11);
        due.is("nor give", x.lie(0), 11);
        due.is("price", x.price(0), 13);
        due.is("none behind the last one", x.textTold(14, 0), Due.BAD);
    }

    /** "Of a KEY that TEXT counts that was told last." */
    private static void toldLast() {
        ScentCloth x = new ScentCloth();
        x.cloth();
        due.is("none", x.why(2), Due.NONE);
        Due.read(x, "lie 5");
        Due.read(x, "lie 4");
        due.is("the later one, be it less", x.lie(0), 4);
        Due.read(x, "price 9");
        due.is("of another KEY does not matter", x.lie(0), 4);
        due.is("a FAULT", Due.read(x, "lie 3 3"), -106);
        due.is("does not count", x.lie(0), 4);
        due.is("which one", x.why(2), 1);
        x.keep();
        Due.read(x, "lie 2");
        due.is("told last", x.lie(0), 2);
        x.back();
        due.is("told last, by the image", x.lie(0), 4);
        due.is("of fade there is none", x.why(0), Due.NONE);
    }

    /** "how many NUMBERS and NAMES it has" */
    private static void leaves() {
        String[] texts = {"lie 1", "lie d", "lie !!!(((d)))", "lie d+n", "lie 1+1=n&0|d/n*9999", "lie 1" + "+d".repeat(45)};
        int[] many = {1, 1, 1, 2, 7, 46};
        ScentCloth x = new ScentCloth();
        for (int i = 0; i < texts.length; i++) {
            Due.read(x, texts[i]);
            due.is("'" + texts[i] + "'", x.textTold(i, 1), many[i]);
        }
    }

    /** What a lie gives on DAY 0, if no WORD is said. */
    private static void gives(String e, int want) {
        ScentCloth x = new ScentCloth();
        x.cloth();
        due.is("'lie " + e + "'", Due.read(x, "lie " + e), 0);
        due.is(e, x.lie(0), want);
    }

    /** "Ints wrap; / is 0 by 0"; "/ cuts towards 0" */
    private static void intsWrap() {
        String most = "(2048*1024*1024-1)";
        String least = "(2048*1024*1024)";
        gives(most, Integer.MAX_VALUE);
        gives(least, Integer.MIN_VALUE);
        gives(most + "+1", Integer.MIN_VALUE);
        gives(least + "-1", Integer.MAX_VALUE);
        gives("0-" + least, Integer.MIN_VALUE);
        gives(least + "/(0-1)", Integer.MIN_VALUE);
        gives(least + "*(0-1)", Integer.MIN_VALUE);
        gives(most + "*2", -2);
        gives(most + "*" + most, 1);
        gives(least + "/0", 0);
        gives(most + "/0", 0);
        gives("0/0", 0);
        gives("5/d", 0);
        gives("5/(1/2)", 0);
        gives("7/2", 3);
        gives("(0-7)/2", -3);
        gives("7/(0-2)", -3);
        gives("(0-7)/(0-2)", 3);
        gives("(0-1)/2", 0);
        gives(least + "<" + most, 1);
        gives(most + "<" + least, 0);
        gives(least + ">" + most, 0);
        gives(least + "=0-" + least, 1);
    }

    /** "tests, & | ! give 1 or 0 (what is not 0 is true ..)" */
    private static void trueAndFalse() {
        String[] numbers = {"0", "1", "2", "(0-1)", "9999"};
        for (String a : numbers) {
            boolean ya = !a.equals("0");
            gives("!" + a, ya ? 0 : 1);
            gives("!!" + a, ya ? 1 : 0);
            for (String b : numbers) {
                boolean yb = !b.equals("0");
                gives(a + "&" + b, ya && yb ? 1 : 0);
                gives(a + "|" + b, ya || yb ? 1 : 0);
                gives(a + "=" + b, a.equals(b) ? 1 : 0);
            }
        }
        gives("1<2", 1);
        gives("2<2", 0);
        gives("3<2", 0);
        gives("1>2", 0);
        gives("2>2", 0);
        gives("3>2", 1);
    }

    /** "both sides are worked out": so a division by 0 stands on either side, and nothing comes of it but 0. */
    private static void bothSides() {
        gives("0&1/0", 0);
        gives("1|1/0", 1);
        gives("1/0&0", 0);
        gives("1/0|1", 1);
        gives("1/0|0/0", 0);
        gives("!(1/0)", 1);
    }
}
