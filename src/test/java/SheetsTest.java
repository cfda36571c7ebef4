/** Promises 38 to 45: sheets, slots. */
public final class SheetsTest {
    private static final Due due = new Due();
    private static final int MOST = Integer.MAX_VALUE, LEAST = Integer.MIN_VALUE;

    public static void main(String[] args) {
        sheet();
        markShorts();
        markFloats();
        pour();
        copy();
        copyRefused();
        lay();
        layKeeps();
        ask();
        item();
        rest();
        due.end();
    }

    /** A place of a sheet, by way of slot 4. */
    private static int at(ScentCloth x, int sheet, int place) {
        x.lay(4, 2, sheet);
        return x.item(4, place);
    }

    private static void sheet() {
        ScentCloth x = new ScentCloth();
        due.is("sheet(4, 0, 1)", x.sheet(4, 0, 1), Due.BAD);
        due.is("sheet(-1, 0, 1)", x.sheet(-1, 0, 1), Due.BAD);
        due.is("sort 2", x.sheet(0, 2, 1), Due.BAD);
        due.is("sort -2", x.sheet(0, -2, 1), Due.BAD);
        due.is("n 25", x.sheet(0, 0, 25), Due.BAD);
        due.is("n -1", x.sheet(0, 0, -1), Due.SIZE);
        due.is("n least", x.sheet(0, 1, LEAST), Due.SIZE);
        due.is("a bad sort before size", x.sheet(0, 2, -1), Due.BAD);
        due.is("still missing", x.mark(0, 0, 1), Due.NOTHING);
        due.is("n 24", x.sheet(0, 0, 24), 24);
        due.is("the last place", x.mark(0, 23, 1), 1);
        due.is("none behind it", x.mark(0, 24, 1), Due.INDEX);
        due.is("refused", x.sheet(0, 0, 25), Due.BAD);
        due.is("it stays", at(x, 0, 23), 1);
        due.is("anew", x.sheet(0, 1, 24), 24);
        due.is("all 0", at(x, 0, 23), 0);
        due.is("n 0", x.sheet(0, 1, 0), 0);
        due.is("no places", x.mark(0, 0, 1), Due.INDEX);
        due.is("missing, n any", x.sheet(0, -1, 25), 0);
        due.is("missing it is", x.mark(0, 0, 1), Due.NOTHING);
        due.is("missing, n below 0", x.sheet(0, -1, -7), 0);
        due.is("sheet 3", x.sheet(3, 0, 5), 5);
    }

    private static void markShorts() {
        ScentCloth x = new ScentCloth();
        x.sheet(0, 0, 3);
        due.is("mark", x.mark(0, 0, 32767), 1);
        due.is("32767", at(x, 0, 0), 32767);
        x.mark(0, 0, 32768);
        due.is("its lowest 16 bits", at(x, 0, 0), -32768);
        x.mark(0, 0, 65535);
        due.is("65535", at(x, 0, 0), -1);
        x.mark(0, 0, LEAST);
        due.is("the least int", at(x, 0, 0), 0);
        due.is("NONE", x.mark(0, 0, Due.NONE), Due.KIND);
        due.is("no place, though NONE", x.mark(0, 3, Due.NONE), Due.INDEX);
        due.is("place -1", x.mark(0, -1, 0), Due.INDEX);
        due.is("missing", x.mark(1, -1, 0), Due.NOTHING);
        due.is("mark(4, 0, 0)", x.mark(4, 0, 0), Due.BAD);
        due.is("mark(-1, 0, 0)", x.mark(-1, 0, 0), Due.BAD);
    }

    private static void markFloats() {
        ScentCloth x = new ScentCloth();
        x.sheet(0, 1, 3);
        due.is("most", x.mark(0, 0, 99999), 1);
        due.is("least", x.mark(0, 1, -99999), 1);
        due.is("no number", x.mark(0, 2, Due.NONE), 1);
        due.is("above", x.mark(0, 0, 100000), Due.BAD);
        due.is("below", x.mark(0, 1, -100000), Due.BAD);
        due.is("place before v", x.mark(0, 3, 100000), Due.INDEX);
        due.is("99999", at(x, 0, 0), 99999);
        due.is("-99999", at(x, 0, 1), -99999);
        due.is("no number there", at(x, 0, 2), Due.KIND);
        x.mark(0, 2, 5);
        due.is("a number again", at(x, 0, 2), 5);
    }

    private static void pour() {
        ScentCloth x = new ScentCloth();
        x.cloth();
        x.cloth();
        for (int s = 0; s < 6; s++) {
            x.scent(0, 0);
            x.dab(1, s, 50);
        }
        x.sheet(0, 1, 5);
        x.mark(0, 0, 1000);
        x.mark(0, 1, -1);
        x.mark(0, 2, Due.NONE);
        x.mark(0, 3, 50);
        x.mark(0, 4, 51);
        due.is("pour(1, 0)", x.pour(1, 0), 3);
        int[] then = {999, 0, 50, 50, 51, 50};
        for (int s = 0; s < 6; s++) {
            due.is("strength " + s, x.strength(1, s), then[s]);
            due.is("the other cloth's " + s, x.strength(0, s), 0);
        }
        due.is("again: nothing", x.pour(1, 0), 0);
        x.sheet(1, 0, 24);
        x.mark(1, 23, 7);
        due.is("shorts, more than scents", x.pour(1, 1), 5);
        due.is("all 0", x.count(4), 0);
        x.sheet(1, 0, 0);
        due.is("no places", x.pour(1, 1), 0);
        due.is("missing", x.pour(0, 2), Due.NOTHING);
        due.is("a bad cloth before missing", x.pour(2, 2), Due.BAD);
        due.is("pour(-1, 0)", x.pour(-1, 0), Due.BAD);
        due.is("pour(0, 4)", x.pour(0, 4), Due.BAD);
        due.is("pour(0, -1)", x.pour(0, -1), Due.BAD);
    }

    private static void copy() {
        ScentCloth x = new ScentCloth();
        x.sheet(0, 0, 6);
        x.sheet(1, 0, 4);
        for (int i = 0; i < 6; i++) {
            x.mark(0, i, 10 + i);
        }
        due.is("copy(0, 2, 1, 1, 3)", x.copy(0, 2, 1, 1, 3), 3);
        int[] other = {0, 12, 13, 14};
        for (int i = 0; i < 4; i++) {
            due.is("the other's place " + i, at(x, 1, i), other[i]);
        }
        due.is("up, over itself", x.copy(0, 0, 0, 1, 5), 5);
        int[] up = {10, 10, 11, 12, 13, 14};
        for (int i = 0; i < 6; i++) {
            due.is("up: place " + i, at(x, 0, i), up[i]);
        }
        due.is("down, over itself", x.copy(0, 2, 0, 0, 4), 4);
        int[] down = {11, 12, 13, 14, 13, 14};
        for (int i = 0; i < 6; i++) {
            due.is("down: place " + i, at(x, 0, i), down[i]);
        }
        x.sheet(2, 1, 2);
        x.mark(2, 0, Due.NONE);
        due.is("no number, too", x.copy(2, 0, 2, 1, 1), 1);
        due.is("as it was", at(x, 2, 1), Due.KIND);
    }

    private static void copyRefused() {
        ScentCloth x = new ScentCloth();
        x.sheet(0, 0, 6);
        x.sheet(1, 0, 4);
        x.sheet(2, 1, 4);
        due.is("from 4", x.copy(4, 0, 0, 0, 0), Due.BAD);
        due.is("from -1", x.copy(-1, 0, 0, 0, 0), Due.BAD);
        due.is("to 4", x.copy(3, 0, 4, 0, 0), Due.BAD);
        due.is("to -1", x.copy(0, 0, -1, 0, 0), Due.BAD);
        due.is("from missing", x.copy(3, -1, 0, 0, 0), Due.NOTHING);
        due.is("to missing", x.copy(0, -1, 3, 0, 0), Due.NOTHING);
        due.is("another sort", x.copy(0, -1, 2, 0, -1), Due.KIND);
        due.is("many -1", x.copy(0, 0, 1, 0, -1), Due.INDEX);
        due.is("many least", x.copy(0, 0, 1, 0, LEAST), Due.INDEX);
        due.is("many most", x.copy(0, 1, 1, 1, MOST), Due.INDEX);
        due.is("place -1", x.copy(0, -1, 1, 0, 1), Due.INDEX);
        due.is("at -1", x.copy(0, 0, 1, -1, 1), Due.INDEX);
        due.is("place most", x.copy(0, MOST, 1, 0, 1), Due.INDEX);
        due.is("at most", x.copy(0, 0, 1, MOST, 1), Due.INDEX);
        due.is("beyond from", x.copy(0, 3, 1, 0, 4), Due.INDEX);
        due.is("beyond to", x.copy(0, 0, 1, 1, 4), Due.INDEX);
        due.is("just within", x.copy(0, 2, 1, 0, 4), 4);
        due.is("none, at both ends", x.copy(0, 6, 1, 4, 0), 0);
        due.is("none, above from", x.copy(0, 7, 1, 4, 0), Due.INDEX);
        due.is("none, above to", x.copy(0, 6, 1, 5, 0), Due.INDEX);
        due.is("none, below", x.copy(0, -1, 1, 0, 0), Due.INDEX);
    }

    private static void lay() {
        ScentCloth x = new ScentCloth();
        x.scent(0, 5);
        x.sheet(1, 0, 0);
        due.is("a scent", x.lay(0, 1, 0), 0);
        due.is("a sheet", x.lay(0, 2, 1), 1);
        due.is("a number", x.lay(0, 3, LEAST), 2);
        due.is("nothing, k any", x.lay(0, 0, 77), 3);
        due.is("nothing was there", x.lay(0, 3, 1), 0);
        due.is("slot 5", x.lay(5, 0, 0), Due.BAD);
        due.is("slot -1", x.lay(-1, 0, 0), Due.BAD);
        due.is("thing 4", x.lay(0, 4, 0), Due.BAD);
        due.is("thing -1", x.lay(0, -1, 0), Due.BAD);
        due.is("scent 1", x.lay(0, 1, 1), Due.BAD);
        due.is("scent -1", x.lay(0, 1, -1), Due.BAD);
        due.is("sheet 4", x.lay(0, 2, 4), Due.BAD);
        due.is("sheet -1", x.lay(0, 2, -1), Due.BAD);
        due.is("a missing sheet", x.lay(0, 2, 0), Due.NOTHING);
        due.is("the number is there still", x.lay(4, 0, 0) + x.lay(0, 0, 0), 3);
    }

    private static void layKeeps() {
        ScentCloth x = new ScentCloth();
        x.keep();
        x.scent(3, 20);
        x.lay(0, 1, 0);
        x.turns(0, 4);
        x.pace(0, 1);
        due.is("the scent as it was", x.ask(0, 0), 80);
        x.back();
        due.is("for good", x.ask(0, 3), 80);
        x.sheet(0, 1, 2);
        x.mark(0, 0, 70000);
        x.mark(0, 1, Due.NONE);
        x.lay(1, 2, 0);
        x.mark(0, 0, 1);
        x.mark(0, 1, 1);
        due.is("the sheet as it was", x.item(1, 0), 70000);
        due.is("no number as it was", x.item(1, 1), Due.KIND);
        x.sheet(0, -1, 0);
        due.is("a row of its own", x.item(1, 0), 70000);
    }

    private static void ask() {
        ScentCloth x = new ScentCloth();
        int[] worth = {9, 51, 14, 102, 7, 99};
        int[] above = {0b000001, 0b000011, 0b000101, 0b001011, 0b010101, 0b100001};
        for (int kind = 0; kind < 6; kind++) {
            x.scent(kind, 9);
            x.lay(0, 1, kind);
            for (int of = 0; of < 6; of++) {
                boolean is = (above[kind] >> of & 1) == 1;
                due.is("kind " + kind + " for " + of, x.ask(0, of), is ? worth[kind] : Due.KIND);
            }
        }
        due.is("nothing", x.ask(1, 0), Due.NOTHING);
        due.is("a bad kind before nothing", x.ask(1, 6), Due.BAD);
        due.is("kind -1", x.ask(0, -1), Due.BAD);
        due.is("slot 5", x.ask(5, 0), Due.BAD);
        due.is("slot -1", x.ask(-1, 0), Due.BAD);
        x.lay(1, 3, 0);
        due.is("a number", x.ask(1, 0), Due.KIND);
        x.sheet(0, 0, 1);
        x.lay(1, 2, 0);
        due.is("a sheet", x.ask(1, 0), Due.KIND);
        x.lay(0, 3, 0);
        due.is("no scent any more", x.ask(0, 0), Due.KIND);
        x.lay(0, 0, 0);
        due.is("nothing any more", x.ask(0, 0), Due.NOTHING);
    }

    private static void item() {
        ScentCloth x = new ScentCloth();
        x.sheet(0, 0, 2);
        x.mark(0, 1, -3);
        x.lay(0, 2, 0);
        due.is("item(0, 1)", x.item(0, 1), -3);
        due.is("place 2", x.item(0, 2), Due.INDEX);
        due.is("place -1", x.item(0, -1), Due.INDEX);
        due.is("nothing", x.item(1, -1), Due.NOTHING);
        x.lay(1, 3, 5);
        due.is("a number", x.item(1, -1), Due.KIND);
        x.scent(0, 0);
        x.lay(1, 1, 0);
        due.is("a scent", x.item(1, 0), Due.KIND);
        due.is("slot 5", x.item(5, 0), Due.BAD);
        due.is("slot -1", x.item(-1, 0), Due.BAD);
        x.sheet(0, 0, 0);
        x.lay(0, 2, 0);
        due.is("no places", x.item(0, 0), Due.INDEX);
    }

    private static void rest() {
        ScentCloth x = new ScentCloth();
        x.lay(0, 3, -17);
        due.is("rest(0, 5)", x.rest(0, 5), -2);
        due.is("rest(0, -5)", x.rest(0, -5), -2);
        due.is("rest(0, 0)", x.rest(0, 0), Due.NO);
        x.lay(0, 3, LEAST);
        due.is("by -1", x.rest(0, -1), 0);
        due.is("by the least", x.rest(0, LEAST), 0);
        x.lay(0, 3, 17);
        due.is("17 by -5", x.rest(0, -5), 2);
        due.is("nothing", x.rest(1, 0), Due.NOTHING);
        x.sheet(0, 0, 1);
        x.lay(1, 2, 0);
        due.is("a sheet", x.rest(1, 0), Due.KIND);
        x.scent(0, 0);
        x.lay(1, 1, 0);
        due.is("a scent", x.rest(1, 1), Due.KIND);
        due.is("slot 5", x.rest(5, 1), Due.BAD);
        due.is("slot -1", x.rest(-1, 1), Due.BAD);
    }
}
