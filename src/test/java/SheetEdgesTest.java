/** Promises 38 to 45 at the edges that part 5 names, sentence by sentence. */
public final class SheetEdgesTest {
    private static final Due due = new Due();
    private static final int MOST = Integer.MAX_VALUE, LEAST = Integer.MIN_VALUE;

    public static void main(String[] args) {
        missingAtFirst();
        placesOfASheet();
        allNought();
        missingAgain();
        shorts();
        floats();
        noNumber();
        pourHeld();
        pourBeyond();
        copyAsTheyWere();
        copyToTheEnds();
        copyOfNone();
        slotsHold();
        scentForGood();
        rowOfItsOwn();
        everyFinding();
        restOfNumbers();
        due.end();
    }

    /** A place of a SHEET, by way of SLOT 4. */
    private static int at(ScentCloth x, int sheet, int place) {
        x.lay(4, 2, sheet);
        return x.item(4, place);
    }

    /** "or MISSING (at first)"; "SLOTS 0 .. 4 each hold nothing (at first)" */
    private static void missingAtFirst() {
        ScentCloth x = new ScentCloth();
        x.cloth();
        x.scent(0, 0);
        for (int sheet = 0; sheet < 4; sheet++) {
            due.is("mark " + sheet, x.mark(sheet, 0, 0), Due.NOTHING);
            due.is("pour " + sheet, x.pour(0, sheet), Due.NOTHING);
            due.is("dated " + sheet, x.dated(sheet, 0, 0, 0), Due.NOTHING);
            due.is("copy " + sheet, x.copy(sheet, 0, sheet, 0, 0), Due.NOTHING);
            due.is("lay " + sheet, x.lay(0, 2, sheet), Due.NOTHING);
        }
        for (int slot = 0; slot < 5; slot++) {
            due.is("ask " + slot, x.ask(slot, 0), Due.NOTHING);
            due.is("item " + slot, x.item(slot, 0), Due.NOTHING);
            due.is("rest " + slot, x.rest(slot, 1), Due.NOTHING);
            due.is("lay " + slot, x.lay(slot, 0, 0), 0);
        }
    }

    /** "rows of shorts (sort 0) or floats (1; whole numbers), with 0 to 24 places" */
    private static void placesOfASheet() {
        for (int sort = 0; sort < 2; sort++) {
            for (int n = 0; n <= 24; n++) {
                ScentCloth x = new ScentCloth();
                due.is("sheet of " + n, x.sheet(3, sort, n), n);
                due.is("its first place", x.mark(3, 0, 1), n > 0 ? 1 : Due.INDEX);
                due.is("its last place", x.mark(3, n - 1, 1), n > 0 ? 1 : Due.INDEX);
                due.is("none behind it", x.mark(3, n, 1), Due.INDEX);
                due.is("none ahead of it", x.mark(3, -1, 1), Due.INDEX);
                x.lay(0, 2, 3);
                due.is("told", x.item(0, n - 1), n > 0 ? 1 : Due.INDEX);
                due.is("not told", x.item(0, n), Due.INDEX);
            }
        }
    }

    /** "A SHEET becomes a row of n places of a sort, all 0" */
    private static void allNought() {
        for (int sort = 0; sort < 2; sort++) {
            ScentCloth x = new ScentCloth();
            x.sheet(1, 1, 24);
            for (int k = 0; k < 24; k++) {
                x.mark(1, k, k % 2 == 0 ? Due.NONE : 7);
            }
            due.is("fewer places", x.sheet(1, sort, 3), 3);
            due.is("then all of them", x.sheet(1, sort, 24), 24);
            for (int k = 0; k < 24; k++) {
                due.is("place " + k, at(x, 1, k), 0);
            }
        }
    }

    /** "(sort -1: MISSING, n any): n (0)" */
    private static void missingAgain() {
        for (int n : new int[] {0, 1, 24, 25, -1, MOST, LEAST}) {
            ScentCloth x = new ScentCloth();
            x.sheet(2, 0, 5);
            due.is("missing, n " + n, x.sheet(2, -1, n), 0);
            due.is("it is", x.mark(2, 0, 1), Due.NOTHING);
            due.is("again", x.sheet(2, -1, n), 0);
            due.is("and is there anew", x.sheet(2, 0, 5), 5);
        }
    }

    /** "of shorts its lowest 16 bits" */
    private static void shorts() {
        int[][] rows = {{0, 0}, {1, 1}, {-1, -1}, {32767, 32767}, {32768, -32768}, {-32768, -32768}, {-32769, 32767}, {65535, -1},
            {65536, 0}, {65537, 1}, {MOST, -1}, {LEAST, 0}, {99999, -31073}, {100000, -31072}, {Due.NONE + 1, 13820},
            {Due.NONE - 1, 13818}, {Due.BAD, 13823}};
        ScentCloth x = new ScentCloth();
        x.sheet(0, 0, 1);
        for (int[] r : rows) {
            due.is("mark " + r[0], x.mark(0, 0, r[0]), 1);
            due.is(r[0] + " then", at(x, 0, 0), r[1]);
        }
        x.mark(0, 0, 5);
        due.is("NONE", x.mark(0, 0, Due.NONE), Due.KIND);
        due.is("it stays", at(x, 0, 0), 5);
    }

    /** "of floats v, -99999 .. 99999; NONE: NO NUMBER" */
    private static void floats() {
        ScentCloth x = new ScentCloth();
        x.sheet(0, 1, 1);
        for (int v : new int[] {-99999, -99998, -32769, -1, 0, 1, 32768, 65536, 99998, 99999}) {
            due.is("mark " + v, x.mark(0, 0, v), 1);
            due.is(v + " then", at(x, 0, 0), v);
        }
        for (int v : new int[] {-100000, 100000, MOST, LEAST, Due.NONE - 1, Due.NONE + 1, Due.KIND}) {
            due.is("mark " + v, x.mark(0, 0, v), Due.BAD);
            due.is("it stays", at(x, 0, 0), 99999);
        }
    }

    /** "A place of floats may be NO NUMBER." */
    private static void noNumber() {
        ScentCloth x = new ScentCloth();
        x.sheet(0, 1, 2);
        due.is("NO NUMBER", x.mark(0, 0, Due.NONE), 1);
        due.is("it is none", at(x, 0, 0), Due.KIND);
        due.is("the other place is one", at(x, 0, 1), 0);
        due.is("once more", x.mark(0, 0, Due.NONE), 1);
        due.is("a number again", x.mark(0, 0, -3), 1);
        due.is("told", at(x, 0, 0), -3);
    }

    /** "(held within 0 .. 999; NO NUMBER, and beyond the SHEET: it stays)" */
    private static void pourHeld() {
        int[][] rows = {{0, 0}, {1, 1}, {-1, 0}, {999, 999}, {1000, 999}, {998, 998}, {-99999, 0}, {99999, 999}, {Due.NONE, 50}};
        for (int[] r : rows) {
            ScentCloth x = new ScentCloth();
            x.cloth();
            x.scent(0, 0);
            x.dab(0, 0, 50);
            x.sheet(0, 1, 1);
            x.mark(0, 0, r[0]);
            due.is("pour of " + r[0], x.pour(0, 0), r[1] == 50 ? 0 : 1);
            due.is("STRENGTH then", x.strength(0, 0), r[1]);
            due.is("again: as it is", x.pour(0, 0), 0);
        }
        ScentCloth x = new ScentCloth();
        x.cloth();
        x.scent(0, 0);
        x.scent(0, 0);
        x.dab(0, 1, 9);
        x.sheet(0, 0, 2);
        x.mark(0, 0, 32767);
        x.mark(0, 1, 32768);
        due.is("of shorts", x.pour(0, 0), 2);
        due.is("the most", x.strength(0, 0), 999);
        due.is("the least", x.strength(0, 1), 0);
    }

    private static void pourBeyond() {
        for (int n = 0; n <= 24; n++) {
            ScentCloth x = new ScentCloth();
            x.cloth();
            for (int s = 0; s < 9; s++) {
                x.scent(0, 0);
                x.dab(0, s, 5);
            }
            x.sheet(0, 0, n);
            due.is("pour of " + n + " places", x.pour(0, 0), Math.min(n, 9));
            due.is("all then", x.count(4), 5 * Math.max(0, 9 - n));
            due.is("the ninth", x.strength(0, 8), n >= 9 ? 0 : 5);
        }
        ScentCloth bare = new ScentCloth();
        bare.cloth();
        bare.sheet(0, 0, 24);
        due.is("no SCENTS", bare.pour(0, 0), 0);
    }

    /** "So many places of a SHEET come to another one (or the same), as they were" */
    private static void copyAsTheyWere() {
        for (int from = 0; from <= 4; from++) {
            for (int to = 0; to <= 4; to++) {
                ScentCloth x = new ScentCloth();
                x.sheet(0, 1, 8);
                for (int k = 0; k < 8; k++) {
                    x.mark(0, k, k == 3 ? Due.NONE : k);
                }
                due.is("copy " + from + " to " + to, x.copy(0, from, 0, to, 4), 4);
                for (int k = 0; k < 8; k++) {
                    int was = k >= to && k < to + 4 ? k - to + from : k;
                    due.is("place " + k, at(x, 0, k), was == 3 ? Due.KIND : was);
                }
            }
        }
    }

    /** "INDEX (also many below 0; with many 0, of a place above its length)" */
    private static void copyToTheEnds() {
        ScentCloth x = new ScentCloth();
        x.sheet(0, 0, 24);
        x.sheet(1, 0, 24);
        x.mark(0, 23, 6);
        due.is("all of them", x.copy(0, 0, 1, 0, 24), 24);
        due.is("the last one came", at(x, 1, 23), 6);
        due.is("one too many", x.copy(0, 0, 1, 0, 25), Due.INDEX);
        due.is("the last one alone", x.copy(0, 23, 1, 0, 1), 1);
        due.is("it is the first one there", at(x, 1, 0), 6);
        due.is("from one behind it", x.copy(0, 24, 1, 0, 1), Due.INDEX);
        due.is("to one behind it", x.copy(0, 0, 1, 24, 1), Due.INDEX);
        due.is("from the last one two", x.copy(0, 23, 1, 0, 2), Due.INDEX);
        due.is("to the last one two", x.copy(0, 0, 1, 23, 2), Due.INDEX);
        due.is("sums that wrap", x.copy(0, MOST, 1, MOST, MOST), Due.INDEX);
        due.is("and that wrap to 0", x.copy(0, LEAST, 1, LEAST, LEAST), Due.INDEX);
        due.is("to a place by a wrap", x.copy(0, 1, 1, 1, MOST), Due.INDEX);
    }

    private static void copyOfNone() {
        ScentCloth x = new ScentCloth();
        x.sheet(0, 0, 3);
        x.sheet(1, 0, 0);
        due.is("none, from 0 to 0", x.copy(0, 0, 1, 0, 0), 0);
        due.is("none, from the length", x.copy(0, 3, 1, 0, 0), 0);
        due.is("none, from above it", x.copy(0, 4, 1, 0, 0), Due.INDEX);
        due.is("none, to above it", x.copy(0, 0, 1, 1, 0), Due.INDEX);
        due.is("none, from below 0", x.copy(0, -1, 1, 0, 0), Due.INDEX);
        due.is("none, to below 0", x.copy(0, 0, 1, -1, 0), Due.INDEX);
        due.is("fewer than none", x.copy(0, 0, 1, 0, -1), Due.INDEX);
        due.is("fewer than none, from the length", x.copy(0, 3, 0, 3, -1), Due.INDEX);
        due.is("none of an empty one to itself", x.copy(1, 0, 1, 0, 0), 0);
        x.sheet(2, 1, 0);
        due.is("none of another sort", x.copy(1, 0, 2, 0, 0), Due.KIND);
    }

    /** "SLOTS 0 .. 4 each hold nothing (at first), a SCENT .., a SHEET .., or a number"; lay: "what it held (0 .. 3)" */
    private static void slotsHold() {
        ScentCloth x = new ScentCloth();
        x.deal(9);
        x.sheet(3, 0, 1);
        int[] k = {LEAST, 8, 3, MOST};
        for (int slot = 0; slot < 5; slot++) {
            int held = 0;
            for (int step : new int[] {1, 2, 3, 0, 3, 2, 1, 0, 0, 1, 1, 2, 2, 3, 3}) {
                due.is("SLOT " + slot + " held " + held, x.lay(slot, step, k[step]), held);
                held = step;
            }
            due.is("a number at last", x.rest(slot, LEAST), MOST);
        }
    }

    /** "a SCENT (as it is then, for good)" */
    private static void scentForGood() {
        ScentCloth x = new ScentCloth();
        x.keep();
        x.scent(4, 0);
        x.lay(0, 1, 0);
        due.is("LEMON of PACE 0", x.ask(0, 4), -2);
        x.pace(0, 50);
        x.turns(0, 3);
        x.lay(1, 1, 0);
        due.is("as it was", x.ask(0, 2), -2);
        due.is("AMBER of PACE 50", x.ask(1, 1), 20);
        x.back();
        due.is("no SCENT is there any more", x.count(0), 0);
        due.is("but in a SLOT", x.ask(0, 0), -2);
        due.is("and in another one", x.ask(1, 3), 20);
        x.scent(5, 1);
        due.is("whatever comes", x.ask(0, 0), -2);
    }

    /** "a SHEET (a row of its own, as it was then)" */
    private static void rowOfItsOwn() {
        ScentCloth x = new ScentCloth();
        x.sheet(0, 0, 24);
        x.mark(0, 23, 8);
        x.lay(0, 2, 0);
        x.lay(1, 2, 0);
        x.mark(0, 23, 9);
        x.lay(1, 2, 0);
        due.is("as it was then", x.item(0, 23), 8);
        due.is("as it was later", x.item(1, 23), 9);
        x.sheet(0, 1, 0);
        x.lay(1, 2, 0);
        due.is("a row without places", x.item(1, 0), Due.INDEX);
        due.is("all places are there still", x.item(0, 23), 8);
        x.sheet(0, -1, 0);
        due.is("though the SHEET is missing", x.item(0, 0), 0);
        due.is("and no more of them", x.item(0, 24), Due.INDEX);
    }

    /** "FINDINGS: NOTHING: a SHEET is MISSING, a SLOT holds nothing; INDEX: ..; SIZE: ..; KIND: .." */
    private static void everyFinding() {
        ScentCloth x = new ScentCloth();
        x.scent(1, 9);
        x.sheet(0, 1, 1);
        x.mark(0, 0, Due.NONE);
        x.lay(0, 1, 0);
        x.lay(1, 2, 0);
        x.lay(2, 3, 7);
        int[][] ask = {{0, 51}, {1, Due.KIND}, {2, Due.KIND}, {3, Due.NOTHING}, {5, Due.BAD}};
        int[][] item = {{0, Due.KIND}, {1, Due.KIND}, {2, Due.KIND}, {3, Due.NOTHING}, {5, Due.BAD}};
        int[][] rest = {{0, Due.KIND}, {1, Due.KIND}, {2, 3}, {3, Due.NOTHING}, {5, Due.BAD}};
        for (int i = 0; i < ask.length; i++) {
            due.is("ask", x.ask(ask[i][0], 1), ask[i][1]);
            due.is("item", x.item(item[i][0], 0), item[i][1]);
            due.is("rest", x.rest(rest[i][0], 4), rest[i][1]);
        }
        due.is("HEAVY is no AMBER", x.ask(0, 3), Due.KIND);
        due.is("no such place", x.item(1, 1), Due.INDEX);
        due.is("below 0", x.sheet(0, 1, -1), Due.SIZE);
    }

    /** "The rest of the number in a SLOT by n (as by % of the language)"; "NO: n is 0" */
    private static void restOfNumbers() {
        int[][] rows = {{7, 3, 1}, {-7, 3, -1}, {7, -3, 1}, {-7, -3, -1}, {6, 3, 0}, {0, 5, 0}, {5, 1, 0}, {5, -1, 0},
            {LEAST, -1, 0}, {LEAST, 1, 0}, {LEAST, LEAST, 0}, {MOST, LEAST, MOST}, {LEAST, MOST, -1}, {MOST, MOST, 0},
            {LEAST, 3, -2}, {MOST, -2, 1}};
        ScentCloth x = new ScentCloth();
        for (int[] r : rows) {
            x.lay(4, 3, r[0]);
            due.is(r[0] + " by " + r[1], x.rest(4, r[1]), r[2]);
            due.is(r[0] + " by 0", x.rest(4, 0), Due.NO);
        }
    }
}
