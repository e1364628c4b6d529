import java.math.BigInteger;
import java.util.ArrayList;
import java.util.List;
import java.util.Random;
import java.util.function.Consumer;

/** Edges of promises 29 to 36: sheets, counts, the digest. */
final class SheetEdges extends Edges {
    private static final String SHEET_ASKS = "A SHEET is a new row of a FORM with n items: n. "
        + "BAD: SHEET, FORM, above 60; SIZE.";
    private static final String SHEETS_SAY = "SHEETS 0 .. 3 are LOST (at first) or a row of a "
        + "FORM: 0 bytes, 1 shorts, 2 ints, of 0 to 60 items (0 at first).";
    private static final String ORDER_SAYS = "Refusals, the first that fits, in the order told at "
        + "each act: BAD -2 (a number not as told, no such thing), NULL, NOT -3 (as told), FULL "
        + "-4, other FINDINGS.";
    private static final String FINDINGS_SAY = "FINDINGS (answers -10 less the number; they "
        + "change nothing but count() 8): 1 NULL: the SHEET is LOST; 2 INDEX: there is no such "
        + "item; 3 CAST: it has another FORM; 4 STORE: unlike FORMS; 5 SIZE: below 0.";
    private static final String LAY_SAYS = "Item i, treated as of a FORM, becomes v (the lowest "
        + "bits that it has): 1. BAD; NULL; CAST; INDEX.";
    private static final String GET_SAYS = "Item i of it. BAD: the least int; so are NULL, CAST, "
        + "INDEX (count() 8 tells).";
    private static final String COPY_SAYS = "n items of SHEET s, from i on, come to SHEET t "
        + "(perhaps s, as they were), from j on: 1. BAD: the SHEETS; NULL: s, t; STORE; INDEX: "
        + "below 0, not so many.";
    private static final String WRITE_SAYS = "SEATS of PEOPLE 0 on (NONE: OUTSIDE) come to a SHEET "
        + "from item 0 on, as many as there are items and PEOPLE: how many. BAD; NULL.";
    private static final String COUNT_SAYS = "0 PEOPLE, 1 bytes, 2 those OUTSIDE, 3 minutes of "
        + "RAIN, 4 FACTS, 5 SUNDAYS, 6 PEWS in which somebody sits, 7 BELL, 8 the number of the "
        + "latest FINDING (0 before any). BAD.";

    private static final int[] BESIDE_SHEETS = {-1, LEAST, 4, MOST};
    private static final int[] BESIDE_FORMS = {-1, LEAST, 3, MOST};

    private void items(LastForemost x, int s, int form, int... want) {
        for (int i = 0; i < want.length; i++) {
            due("get(" + s + ", " + form + ", " + i + ")", x.get(s, form, i), want[i]);
        }
    }

    // ---- 29

    @Sentence(promise = 29, says = SHEET_ASKS, edge = "too small, too large: the sheet, the form")
    void sheetBeside() {
        for (int s : BESIDE_SHEETS) {
            refused("sheet(" + s + ", 0, 1)", x -> x.sheet(s, 0, 1), BAD);
        }
        for (int form : BESIDE_FORMS) {
            refused("sheet(0, " + form + ", 1)", x -> x.sheet(0, form, 1), BAD);
            refused("sheet(3, " + form + ", 1)", x -> x.sheet(3, form, 1), BAD);
        }
    }

    @Sentence(promise = 29, says = SHEET_ASKS, edge = "too large: above 60")
    void sheetTooLarge() {
        for (int n : new int[] {61, MOST}) {
            refused("sheet(0, 0, " + n + ")", x -> x.sheet(0, 0, n), BAD);
            refused("sheet(3, 2, " + n + ")", x -> x.sheet(3, 2, n), BAD);
        }
    }

    @Sentence(promise = 29, says = SHEET_ASKS, edge = "too small: below 0")
    void sheetBelowNought() {
        for (int n : new int[] {-1, LEAST}) {
            refused(States::full, "sheet(0, 0, " + n + ")", x -> x.sheet(0, 0, n), SIZE);
            refused(States::full, "sheet(3, 2, " + n + ")", x -> x.sheet(3, 2, n), SIZE);
            refused(LastForemost::new, "sheet(3, 1, " + n + ")", x -> x.sheet(3, 1, n), SIZE);
        }
    }

    @Sentence(promise = 29, says = ORDER_SAYS, edge = "BAD ahead of SIZE")
    void badSheetBelowNought() {
        refused(States::full, "sheet(4, 0, -1)", x -> x.sheet(4, 0, -1), BAD);
        refused(States::full, "sheet(-1, 0, -1)", x -> x.sheet(-1, 0, -1), BAD);
        refused(States::full, "sheet(0, 3, -1)", x -> x.sheet(0, 3, -1), BAD);
        refused(States::full, "sheet(0, -1, -1)", x -> x.sheet(0, -1, -1), BAD);
    }

    @Sentence(promise = 29, says = SHEETS_SAY, edge = "empty, full, each sheet and form")
    void sheetEmptyAndFull() {
        for (int s = 0; s < 4; s++) {
            for (int form = 0; form < 3; form++) {
                LastForemost x = new LastForemost();
                due("sheet of 0", x.sheet(s, form, 0), 0);
                due("get(" + s + ", " + form + ", 0) of 0", x.get(s, form, 0), LEAST);
                due("count(8)", x.count(8), 2);
                due("sheet of 60", x.sheet(s, form, 60), 60);
                items(x, s, form, new int[60]);
                due("lay(" + s + ", " + form + ", 60, 1)", x.lay(s, form, 60, 1), INDEX);
                due("lose(" + s + ")", x.lose(s), 60);
            }
        }
    }

    @Sentence(promise = 29, says = SHEETS_SAY, edge = "0 at first, also when made anew")
    void sheetMadeAnew() {
        LastForemost x = new LastForemost();
        x.sheet(1, 2, 60);
        for (int i = 0; i < 60; i++) {
            x.lay(1, 2, i, -1 - i);
        }
        due("sheet(1, 2, 3), smaller", x.sheet(1, 2, 3), 3);
        items(x, 1, 2, 0, 0, 0);
        due("get(1, 2, 3)", x.get(1, 2, 3), LEAST);
        due("sheet(1, 0, 60), larger", x.sheet(1, 0, 60), 60);
        items(x, 1, 0, new int[60]);
        x.lay(1, 0, 0, 5);
        x.lose(1);
        x.sheet(1, 0, 1);
        items(x, 1, 0, 0);
    }

    // ---- 30

    @Sentence(promise = 30, says = "It is LOST: how many items it had. BAD; NULL.",
        edge = "too small, too large: the sheet")
    void loseBeside() {
        for (int s : BESIDE_SHEETS) {
            refused("lose(" + s + ")", x -> x.lose(s), BAD);
        }
    }

    @Sentence(promise = 30, says = "It is LOST: how many items it had. BAD; NULL.",
        edge = "refused: a lost sheet")
    void loseLostSheet() {
        refused(States::rich, "lose(3)", x -> x.lose(3), NULL);
        refused(LastForemost::new, "lose(0)", x -> x.lose(0), NULL);
    }

    @Sentence(promise = 30, says = "It is LOST: how many items it had. BAD; NULL.",
        edge = "empty, full")
    void loseEmptyAndFull() {
        LastForemost x = new LastForemost();
        x.sheet(0, 0, 0);
        x.sheet(3, 2, 60);
        due("lose(0) of no items", x.lose(0), 0);
        due("lose(0) again", x.lose(0), NULL);
        due("lose(3) of 60 items", x.lose(3), 60);
        due("lose(3) again", x.lose(3), NULL);
        due("get(3, 2, 0) of a lost one", x.get(3, 2, 0), LEAST);
        due("count(8)", x.count(8), 1);
    }

    // ---- 31

    @Sentence(promise = 31, says = LAY_SAYS, edge = "too small, too large: the sheet, the form")
    void layBeside() {
        for (int s : BESIDE_SHEETS) {
            refused("lay(" + s + ", 0, 0, 9)", x -> x.lay(s, 0, 0, 9), BAD);
        }
        for (int form : BESIDE_FORMS) {
            refused("lay(0, " + form + ", 0, 9)", x -> x.lay(0, form, 0, 9), BAD);
        }
    }

    @Sentence(promise = 31, says = LAY_SAYS, edge = "a wrap-around of bytes")
    void layBytes() {
        wraps(0, new int[][] {{127, 127}, {128, -128}, {255, -1}, {256, 0}, {-128, -128},
            {-129, 127}, {-256, 0}, {LEAST, 0}, {MOST, -1}, {0x12345680, -128}});
    }

    @Sentence(promise = 31, says = LAY_SAYS, edge = "a wrap-around of shorts")
    void layShorts() {
        wraps(1, new int[][] {{32767, 32767}, {32768, -32768}, {65535, -1}, {65536, 0},
            {-32768, -32768}, {-32769, 32767}, {LEAST, 0}, {MOST, -1}, {0x12348000, -32768},
            {128, 128}, {-129, -129}});
    }

    @Sentence(promise = 31, says = LAY_SAYS, edge = "ints have all bits")
    void layInts() {
        wraps(2, new int[][] {{LEAST, LEAST}, {MOST, MOST}, {65536, 65536}, {-32769, -32769},
            {-1, -1}});
    }

    private void wraps(int form, int[][] cases) {
        for (int[] each : cases) {
            LastForemost x = new LastForemost();
            x.sheet(0, form, 3);
            due("lay(0, " + form + ", 1, " + each[0] + ")", x.lay(0, form, 1, each[0]), 1);
            items(x, 0, form, 0, each[1], 0);
        }
    }

    @Sentence(promise = 31, says = LAY_SAYS, edge = "refused: lost, another form, no such item")
    void layRefused() {
        refused("lay(3, 0, 0, 9)", x -> x.lay(3, 0, 0, 9), NULL);
        refused("lay(0, 1, 0, 9)", x -> x.lay(0, 1, 0, 9), CAST);
        refused("lay(0, 2, 0, 9)", x -> x.lay(0, 2, 0, 9), CAST);
        refused("lay(2, 0, 0, 9)", x -> x.lay(2, 0, 0, 9), CAST);
        for (int i : new int[] {-1, LEAST, 4, 60, MOST}) {
            refused("lay(0, 0, " + i + ", 9)", x -> x.lay(0, 0, i, 9), INDEX);
        }
        refused(States::full, "lay(1, 1, 0, 9) of no items", x -> x.lay(1, 1, 0, 9), INDEX);
    }

    @Sentence(promise = 31, says = LAY_SAYS, edge = "the first refusal that fits")
    void layFirstRefusal() {
        refused("lay(3, 3, -1, 9)", x -> x.lay(3, 3, -1, 9), BAD);
        refused("lay(4, 0, -1, 9)", x -> x.lay(4, 0, -1, 9), BAD);
        refused("lay(3, 0, -1, 9)", x -> x.lay(3, 0, -1, 9), NULL);
        refused("lay(0, 1, -1, 9)", x -> x.lay(0, 1, -1, 9), CAST);
        refused("lay(0, 2, 60, 9)", x -> x.lay(0, 2, 60, 9), CAST);
    }

    @Sentence(promise = 31, says = LAY_SAYS, edge = "the first and the last item")
    void layFirstAndLast() {
        LastForemost x = new LastForemost();
        x.sheet(2, 1, 60);
        due("lay(2, 1, 0, 7)", x.lay(2, 1, 0, 7), 1);
        due("lay(2, 1, 59, 8)", x.lay(2, 1, 59, 8), 1);
        due("get(2, 1, 0)", x.get(2, 1, 0), 7);
        due("get(2, 1, 59)", x.get(2, 1, 59), 8);
        due("get(2, 1, 1)", x.get(2, 1, 1), 0);
        due("get(2, 1, 58)", x.get(2, 1, 58), 0);
    }

    // ---- 32

    @Sentence(promise = 32, says = GET_SAYS, edge = "too small, too large: the sheet, the form")
    void getBeside() {
        for (int s : BESIDE_SHEETS) {
            refused("get(" + s + ", 0, 0)", x -> x.get(s, 0, 0), LEAST);
        }
        for (int form : BESIDE_FORMS) {
            refused("get(0, " + form + ", 0)", x -> x.get(0, form, 0), LEAST);
        }
    }

    @Sentence(promise = 32, says = GET_SAYS, edge = "refused: lost, another form, no such item")
    void getRefused() {
        refused(States::rich, "get(3, 0, 0)", x -> x.get(3, 0, 0), LEAST, 1);
        refused(States::rich, "get(0, 1, 0)", x -> x.get(0, 1, 0), LEAST, 3);
        refused(States::rich, "get(2, 1, 0)", x -> x.get(2, 1, 0), LEAST, 3);
        for (int i : new int[] {-1, LEAST, 4, 60, MOST}) {
            refused(States::rich, "get(0, 0, " + i + ")", x -> x.get(0, 0, i), LEAST, 2);
        }
        refused(States::full, "get(1, 1, 0) of no items", x -> x.get(1, 1, 0), LEAST, 2);
    }

    @Sentence(promise = 32, says = GET_SAYS, edge = "the first refusal that fits")
    void getFirstRefusal() {
        refused(States::rich, "get(3, 3, -1)", x -> x.get(3, 3, -1), LEAST, 5);
        refused(States::rich, "get(4, 0, -1)", x -> x.get(4, 0, -1), LEAST, 5);
        refused(States::rich, "get(3, 0, -1)", x -> x.get(3, 0, -1), LEAST, 1);
        refused(States::rich, "get(0, 1, -1)", x -> x.get(0, 1, -1), LEAST, 3);
        refused(States::rich, "get(0, 2, 60)", x -> x.get(0, 2, 60), LEAST, 3);
    }

    @Sentence(promise = 32, says = GET_SAYS, edge = "an item that is the least int")
    void getLeastInt() {
        LastForemost x = new LastForemost();
        x.sheet(0, 2, 1);
        x.lay(0, 2, 0, LEAST);
        due("get(0, 2, 0)", x.get(0, 2, 0), LEAST);
        due("count(8), it is no finding", x.count(8), 0);
    }

    // ---- 33

    @Sentence(promise = 33, says = COPY_SAYS, edge = "too small, too large: the sheets")
    void copyBeside() {
        for (int s : BESIDE_SHEETS) {
            refused("copy(" + s + ", 0, 0, 0, 1)", x -> x.copy(s, 0, 0, 0, 1), BAD);
            refused("copy(0, 0, " + s + ", 0, 1)", x -> x.copy(0, 0, s, 0, 1), BAD);
        }
    }

    @Sentence(promise = 33, says = COPY_SAYS, edge = "refused: lost")
    void copyLost() {
        refused("copy(3, 0, 0, 0, 1)", x -> x.copy(3, 0, 0, 0, 1), NULL);
        refused("copy(0, 0, 3, 0, 1)", x -> x.copy(0, 0, 3, 0, 1), NULL);
        refused("copy(3, 0, 3, 0, 0)", x -> x.copy(3, 0, 3, 0, 0), NULL);
    }

    @Sentence(promise = 33, says = COPY_SAYS, edge = "refused: unlike forms")
    void copyUnlike() {
        refused("copy(0, 0, 2, 0, 1)", x -> x.copy(0, 0, 2, 0, 1), STORE);
        refused("copy(2, 0, 0, 0, 1)", x -> x.copy(2, 0, 0, 0, 1), STORE);
        refused("copy(1, 0, 2, 0, 0), no items", x -> x.copy(1, 0, 2, 0, 0), STORE);
    }

    @Sentence(promise = 33, says = COPY_SAYS, edge = "refused: below 0")
    void copyBelowNought() {
        for (int v : new int[] {-1, LEAST}) {
            refused("copy(0, " + v + ", 0, 0, 1)", x -> x.copy(0, v, 0, 0, 1), INDEX);
            refused("copy(0, 0, 0, " + v + ", 1)", x -> x.copy(0, 0, 0, v, 1), INDEX);
            refused("copy(0, 0, 0, 0, " + v + ")", x -> x.copy(0, 0, 0, 0, v), INDEX);
            refused("copy(0, " + v + ", 0, 0, 0)", x -> x.copy(0, v, 0, 0, 0), INDEX);
        }
    }

    @Sentence(promise = 33, says = COPY_SAYS, edge = "refused: not so many")
    void copyNotSoMany() {
        refused("copy(0, 0, 0, 0, 5)", x -> x.copy(0, 0, 0, 0, 5), INDEX);
        refused("copy(0, 1, 0, 0, 4)", x -> x.copy(0, 1, 0, 0, 4), INDEX);
        refused("copy(0, 0, 0, 1, 4)", x -> x.copy(0, 0, 0, 1, 4), INDEX);
        refused("copy(0, 4, 0, 0, 1)", x -> x.copy(0, 4, 0, 0, 1), INDEX);
        refused("copy(0, 0, 0, 4, 1)", x -> x.copy(0, 0, 0, 4, 1), INDEX);
        refused("copy(0, 5, 0, 0, 0)", x -> x.copy(0, 5, 0, 0, 0), INDEX);
        refused("copy(0, 0, 0, 5, 0)", x -> x.copy(0, 0, 0, 5, 0), INDEX);
    }

    @Sentence(promise = 33, says = COPY_SAYS, edge = "a wrap-around of place and number")
    void copyWraps() {
        refused("copy(0, 1, 0, 0, most)", x -> x.copy(0, 1, 0, 0, MOST), INDEX);
        refused("copy(0, 0, 0, 1, most)", x -> x.copy(0, 0, 0, 1, MOST), INDEX);
        refused("copy(0, most, 0, 0, 1)", x -> x.copy(0, MOST, 0, 0, 1), INDEX);
        refused("copy(0, 0, 0, most, 1)", x -> x.copy(0, 0, 0, MOST, 1), INDEX);
        refused("copy(0, most, 0, most, most)", x -> x.copy(0, MOST, 0, MOST, MOST), INDEX);
        refused("copy(0, least, 0, 0, least)", x -> x.copy(0, LEAST, 0, 0, LEAST), INDEX);
    }

    @Sentence(promise = 33, says = COPY_SAYS, edge = "the first refusal that fits")
    void copyFirstRefusal() {
        refused("copy(4, -1, 3, -1, -1)", x -> x.copy(4, -1, 3, -1, -1), BAD);
        refused("copy(3, -1, 4, -1, -1)", x -> x.copy(3, -1, 4, -1, -1), BAD);
        refused("copy(3, -1, 0, -1, -1)", x -> x.copy(3, -1, 0, -1, -1), NULL);
        refused("copy(0, -1, 3, -1, -1)", x -> x.copy(0, -1, 3, -1, -1), NULL);
        refused("copy(0, -1, 2, -1, -1)", x -> x.copy(0, -1, 2, -1, -1), STORE);
    }

    @Sentence(promise = 33, says = COPY_SAYS, edge = "empty: no items, up to the very end")
    void copyNothing() {
        LastForemost x = States.rich();
        due("copy(0, 0, 0, 0, 0)", x.copy(0, 0, 0, 0, 0), 1);
        due("copy(0, 4, 0, 4, 0)", x.copy(0, 4, 0, 4, 0), 1);
        items(x, 0, 0, 40, 41, 42, 43);
        x.sheet(3, 0, 0);
        due("copy(3, 0, 0, 0, 0)", x.copy(3, 0, 0, 0, 0), 1);
        due("copy(3, 0, 3, 0, 1)", x.copy(3, 0, 3, 0, 1), INDEX);
    }

    @Sentence(promise = 33, says = COPY_SAYS, edge = "the same sheet, over itself both ways")
    void copyOverItself() {
        LastForemost x = States.rich();
        due("copy(0, 0, 0, 1, 3)", x.copy(0, 0, 0, 1, 3), 1);
        items(x, 0, 0, 40, 40, 41, 42);
        x = States.rich();
        due("copy(0, 1, 0, 0, 3)", x.copy(0, 1, 0, 0, 3), 1);
        items(x, 0, 0, 41, 42, 43, 43);
        x = States.rich();
        due("copy(0, 0, 0, 0, 4)", x.copy(0, 0, 0, 0, 4), 1);
        items(x, 0, 0, 40, 41, 42, 43);
    }

    @Sentence(promise = 33, says = COPY_SAYS, edge = "full: all items, the last item")
    void copyAll() {
        for (int form = 0; form < 3; form++) {
            LastForemost x = new LastForemost();
            x.sheet(0, form, 60);
            x.sheet(3, form, 60);
            int[] want = new int[60];
            for (int i = 0; i < 60; i++) {
                want[i] = i - 30;
                x.lay(0, form, i, want[i]);
            }
            due("copy(0, 0, 3, 0, 60)", x.copy(0, 0, 3, 0, 60), 1);
            items(x, 3, form, want);
            due("copy(0, 59, 3, 59, 1)", x.copy(0, 59, 3, 59, 1), 1);
            due("copy(0, 0, 3, 59, 1)", x.copy(0, 0, 3, 59, 1), 1);
            due("get(3, form, 59)", x.get(3, form, 59), -30);
            due("get(0, form, 59)", x.get(0, form, 59), 29);
        }
    }

    // ---- 34

    @Sentence(promise = 34, says = WRITE_SAYS, edge = "too small, too large: the sheet")
    void writeBeside() {
        for (int s : BESIDE_SHEETS) {
            refused("write(" + s + ")", x -> x.write(s), BAD);
        }
    }

    @Sentence(promise = 34, says = WRITE_SAYS, edge = "refused: a lost sheet")
    void writeLost() {
        refused("write(3)", x -> x.write(3), NULL);
        refused(LastForemost::new, "write(0) of nobody", x -> x.write(0), NULL);
    }

    @Sentence(promise = 34, says = WRITE_SAYS, edge = "empty: no items, nobody")
    void writeNothing() {
        LastForemost x = States.rich();
        x.sheet(3, 1, 0);
        due("write(3), no items", x.write(3), 0);
        x.type('x');
        due("write(0), with a fault", x.write(0), 0);
        items(x, 0, 0, 40, 41, 42, 43);
        x.wipe();
        due("write(0), nobody", x.write(0), 0);
        items(x, 0, 0, 40, 41, 42, 43);
    }

    @Sentence(promise = 34, says = WRITE_SAYS, edge = "fewer items, fewer people, full")
    void writeFewerAndFull() {
        LastForemost x = with(SEVEN);
        x.set(1, 1);
        for (int n = 1; n <= 9; n++) {
            x.sheet(0, 2, n);
            for (int i = 0; i < n; i++) {
                x.lay(0, 2, i, 99);
            }
            due("write(0) of " + n, x.write(0), Math.min(n, 7));
            for (int i = 0; i < n; i++) {
                due("get(0, 2, " + i + ") of " + n, x.get(0, 2, i), i < 7 ? 6 - i : 99);
            }
        }
    }

    @Sentence(promise = 34, says = WRITE_SAYS, edge = "outside, in each form")
    void writeOutside() {
        for (int form = 0; form < 3; form++) {
            LastForemost x = with("000;590;000");
            x.set(0, 59);
            x.sheet(1, form, 4);
            x.lay(1, form, 3, 77);
            due("write(1)", x.write(1), 3);
            items(x, 1, form, 0, NONE, 1, 77);
        }
    }

    // ---- 35

    @Sentence(promise = 35, says = COUNT_SAYS, edge = "too small, too large: what")
    void countBeside() {
        for (int what : new int[] {-1, LEAST, 9, MOST}) {
            refused("count(" + what + ")", x -> x.count(what), BAD);
        }
    }

    @Sentence(promise = 35, says = COUNT_SAYS, edge = "empty")
    void countOfNothing() {
        int[] want = {0, 0, 0, 0, 0, 0, 0, 60, 0};
        for (int what = 0; what < want.length; what++) {
            due("count(" + what + ")", new LastForemost().count(what), want[what]);
        }
    }

    @Sentence(promise = 35, says = COUNT_SAYS, edge = "full")
    void countOfAll() {
        LastForemost x = with(SEVEN);
        due("count(0)", x.count(0), 7);
        due("count(1)", x.count(1), 27);
        for (int minute = 0; minute < 60; minute++) {
            x.rain(minute, 1);
            x.sunday(minute % 7, 0);
        }
        for (int i = 0; i < 8; i++) {
            x.sat(0, 0);
        }
        due("count(3)", x.count(3), 60);
        due("count(4)", x.count(4), 8);
        due("count(5)", x.count(5), 60);
        due("count(2), all inside", x.count(2), 0);
        x.set(0, 0);
        due("count(2), all outside", x.count(2), 7);
        due("count(6), all outside", x.count(6), 0);
        due("count(7)", x.count(7), 0);
    }

    @Sentence(promise = 35, says = COUNT_SAYS, edge = "pews just full and one more")
    void countOfPews() {
        int[][] pews = {{0, 1, 2, 3, 4, 5, 6, 7}, {0, 1, 1, 2, 2, 3, 3, 4}, {0, 1, 1, 1, 2, 2, 2, 3},
            {0, 1, 1, 1, 1, 2, 2, 2}};
        for (int wide = 1; wide <= 4; wide++) {
            LastForemost x = with("000;010;020;030;040;050;060");
            x.set(2, wide);
            for (int sitting = 0; sitting <= 7; sitting++) {
                x.set(0, sitting);
                due("count(6), wide " + wide + ", " + sitting + " sitting", x.count(6),
                    pews[wide - 1][sitting]);
                due("count(2), " + sitting + " sitting", x.count(2), 7 - sitting);
            }
        }
    }

    @Sentence(promise = 35, says = FINDINGS_SAY, edge = "0 before any, then each in turn")
    void countOfFindings() {
        LastForemost x = new LastForemost();
        due("count(8)", x.count(8), 0);
        x.sheet(0, 0, 1);
        x.sheet(1, 1, 1);
        due("count(8), all is well", x.count(8), 0);
        due("lose(3)", x.lose(3), -11);
        due("count(8)", x.count(8), 1);
        due("lay(0, 0, 1, 0)", x.lay(0, 0, 1, 0), -12);
        due("count(8)", x.count(8), 2);
        due("lay(0, 1, 0, 0)", x.lay(0, 1, 0, 0), -13);
        due("count(8)", x.count(8), 3);
        due("copy(0, 0, 1, 0, 1)", x.copy(0, 0, 1, 0, 1), -14);
        due("count(8)", x.count(8), 4);
        due("sheet(0, 0, -1)", x.sheet(0, 0, -1), -15);
        due("count(8)", x.count(8), 5);
    }

    @Sentence(promise = 35, says = "They change nothing (FINDINGS but count() 8).",
        edge = "refused, but no finding; then calls that are well")
    void countOfFindingsStays() {
        LastForemost x = States.seven();
        int finding = x.count(8);
        x.type(256);
        x.rest(NONE);
        x.change(5, 0);
        x.count(9);
        x.get(4, 0, 0);
        x.lay(0, 3, 0, 0);
        x.sheet(0, 0, 61);
        x.lay(0, 0, 0, 1);
        x.get(0, 0, 0);
        x.lose(0);
        x.sheet(0, 0, 1);
        x.wipe();
        due("count(8)", x.count(8), finding);
        due("count(8) is the latest one", finding, 5);
    }

    // ---- 36

    private static List<Long> digested(LastForemost x) {
        List<Long> each = new ArrayList<>();
        for (int what = 0; what <= 7; what++) {
            each.add((long) x.count(what));
        }
        each.add((long) x.fault());
        for (int p = 0; p < x.count(0); p++) {
            for (int what = 0; what <= 3; what++) {
                each.add((long) x.person(p, what));
            }
            each.addAll(List.of((long) x.seat(p), (long) x.has(p), (long) x.best(p, 0),
                (long) x.best(p, 1), (long) x.rest(p), (long) x.came(p), x.fair(p, 0),
                x.fair(p, 1), x.late(p, 0)));
            each.addAll(List.of(x.late(p, 1), (long) x.lot(7, p)));
        }
        for (int seat = 0; seat <= 6; seat++) {
            each.add((long) x.who(seat));
        }
        each.addAll(List.of((long) x.rest(NONE), (long) x.changes(), (long) x.churches(0),
            (long) x.churches(1), (long) x.came(NONE), (long) x.sure(), x.allLate(0),
            x.allLate(1)));
        return each;
    }

    /** By numbers without end, of which the lowest 64 bits are taken. */
    private void digestIs(String what, LastForemost x) {
        BigInteger h = BigInteger.valueOf(17);
        for (long each : digested(x)) {
            h = h.multiply(BigInteger.valueOf(31)).add(BigInteger.valueOf(each));
        }
        due("digest() of " + what, x.digest(), h.longValue());
    }

    @Sentence(promise = 36, says = "h is 17; h becomes 31 h and each of: count() 0 to 7; fault(); "
        + "of PEOPLE person() 0 to 3, seat(), has(), best() 0, 1, rest() (as it is told), came(), "
        + "fair(), late(), above and below each, lot(7, it); of SEATS 0 to 6 who(); rest(NONE) (as "
        + "it is told), changes(), churches() 0, 1, came(NONE), sure(), allLate(), above, below; "
        + "as longs that wrap.", edge = "a wrap-around")
    void digestWraps() {
        digestIs("nobody", new LastForemost());
        digestIs("a full text", States.full());
        digestIs("six", States.rich());
        digestIs("seven", States.seven());
        digestIs("one", with("596"));
    }

    @Sentence(promise = 36, says = "h is 17; h becomes 31 h and each of: count() 0 to 7; fault();",
        edge = "empty: nobody")
    void digestOfNobody() {
        // 17 and 31 by itself, then 0 seven times, 60, NONE, who() seven times NONE, then
        // rest 1, changes 0, churches 1 and 0, came 1, sure 0, all late 1 and 1.
        long[] each = {0, 0, 0, 0, 0, 0, 0, 60, -1, -1, -1, -1, -1, -1, -1, -1, 1, 0, 1, 0, 1, 0,
            1, 1};
        BigInteger h = BigInteger.valueOf(17);
        for (long one : each) {
            h = h.multiply(BigInteger.valueOf(31)).add(BigInteger.valueOf(one));
        }
        due("digest()", new LastForemost().digest(), h.longValue());
    }

    private static Consumer<LastForemost> someChange(Random random) {
        int p = random.nextInt(4);
        int q = random.nextInt(4);
        int minute = random.nextInt(40);
        int small = random.nextInt(4);
        switch (random.nextInt(9)) {
            case 0:
                return x -> x.waits(p, minute);
            case 1:
                return x -> x.rain(minute, small % 2);
            case 2:
                return x -> x.love(p, q, 5 * small);
            case 3:
                return x -> x.set(small, small == 0 ? 20 + minute : small == 1 ? p % 2 : q + 1);
            case 4:
                return x -> x.set(4 + small % 2, 1 + q);
            case 5:
                return x -> x.sat(p, q);
            case 6:
                return x -> x.front(p, q);
            case 7:
                return small == 0 ? x -> x.forget() : x -> x.sunday(p, q % 2);
            default:
                return small > 0 ? x -> x.read(q) : x -> {
                    x.wipe();
                    type(x, "10" + p + ";12" + q + ";093;110");
                };
        }
    }

    @Sentence(promise = 36, says = "An object is used for at most 512 calls after it has been made",
        edge = "asked behind every change, as one who was never asked")
    void digestIsNotStale() {
        for (int seed = 0; seed < 12; seed++) {
            Random random = new Random(seed);
            List<Consumer<LastForemost>> changes = new ArrayList<>();
            changes.add(x -> type(x, "101;120;093;110"));
            changes.add(x -> x.sheet(0, 0, 3));
            changes.add(x -> x.lay(0, 0, 1, 20));
            LastForemost x = new LastForemost();
            int done = 0;
            for (int i = 0; i < 60; i++) {
                changes.add(someChange(random));
                for (; done < changes.size(); done++) {
                    changes.get(done).accept(x);
                }
                LastForemost y = new LastForemost();
                changes.forEach(change -> change.accept(y));
                due("digest() behind change " + i + " of " + seed, x.digest(), y.digest());
            }
        }
    }

    @Sentence(promise = 36, says = "rest(NONE) (as it is told)", edge = "full: REST of seven")
    void digestOfSeven() {
        LastForemost x = States.seven();
        due("rest(NONE)", x.rest(NONE), FULL);
        List<Long> each = digested(x);
        due("of person 0, REST is told as it is", each.get(8 + 1 + 8), FULL);
        due("of all, REST is told as it is", each.get(each.size() - 8), FULL);
        digestIs("seven", x);
    }

    @Sentence(promise = 36, says = "count() 0 to 7", edge = "findings and sheets are no part")
    void digestWithoutFindings() {
        LastForemost x = States.rich();
        long before = x.digest();
        x.lose(3);
        due("digest(), another finding", x.digest(), before);
        x.lay(0, 0, 0, 1);
        x.lose(0);
        x.sheet(3, 0, 7);
        due("digest(), other sheets", x.digest(), before);
        due("digest() again", x.digest(), before);
    }
}
