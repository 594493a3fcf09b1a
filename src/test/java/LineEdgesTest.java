/** Section 1 and promises 1 to 5: each sentence that names an edge, and what lies beyond it. */
public final class LineEdgesTest {
    private static final int[] NO_ROWS = {-1, 5, 6, Told.MIN, Told.MAX};
    private static final int[] MOST = {40, 10, 10, 10, 10};

    public static void main(String[] args) {
        rowsAre0To4();
        rowsHoldSoMany();
        fullRows();
        everyLineThatMayBe();
        nOfWordsWith();
        nAndArg();
        argIs0InMain();
        namesAndLocals();
        nearestLocals();
        noneIs0();
        valueOfALine();
        newPress();
        addedNumbers();
        whatPutRefuses();
        putAtTheEnds();
        whatCutRefuses();
        cutAtTheEnds();
        whatOfLineRefuses();
        lineTillCut();
        callsUpTo512();
        Check.finish("LineEdgesTest");
    }

    /** "There are ROWS 0 to 4" */
    private static void rowsAre0To4() {
        Told t = new Told();
        for (int row = 0; row < 5; row++) {
            Check.same("add to ROW " + row, t.press.add(row, Told.END, -1, -1, 0, false), 0);
        }
        for (int row : NO_ROWS) {
            t.refuses("add to ROW " + row, Told.INDEX, p -> p.add(row, Told.END, -1, -1, 0, false));
            t.refuses("put in ROW " + row, Told.INDEX, p -> p.put(row, 0, Told.END, -1, -1, 0, false));
            t.refuses("cut in ROW " + row, Told.INDEX, p -> p.cut(row, 0));
            t.refuses("ofLine of ROW " + row, Told.INDEX, p -> p.ofLine(row, 0, 0));
            t.refuses("wordsWithout of ROW " + row, Told.INDEX, p -> p.wordsWithout(row, 0));
            t.refuses("wordsWith of ROW " + row, Told.INDEX, p -> p.wordsWith(row, 0, 0));
        }
    }

    /** "0 is MAIN, of at most 40 LINES; 1 to 4 are MACROS, of at most 10 each" */
    private static void rowsHoldSoMany() {
        Told t = new Told();
        int all = 0;
        for (int row = 0; row < 5; row++) {
            t.in(row).end().times(MOST[row]);
            all += MOST[row];
            Check.same("LINES of ROW " + row, t.countOf(row), MOST[row]);
            t.manyIs("with full ROWS up to " + row, 1, all);
        }
        t.manyIs("with full ROWS", 0, 40).manyIs("with full ROWS", 1, 80).noFault("with full ROWS");
    }

    /** add: IllegalStateException "if the ROW has as many as it can", behind the other two. */
    private static void fullRows() {
        for (int row = 0; row < 5; row++) {
            int r = row;
            int most = MOST[row];
            Told t = new Told().in(row).data(1).times(most - 1);
            Check.same("the last place of ROW " + row, t.press.add(row, Told.DATA, -1, -1, 2, false), most - 1);
            t.refuses("add to the full ROW " + row, Told.STATE, p -> p.add(r, Told.DATA, -1, -1, 0, false));
            t.refuses("add of KIND 11 to the full ROW " + row, Told.ARGUMENT, p -> p.add(r, 11, -1, -1, 0, false));
            t.refuses("add of x 12 to the full ROW " + row, Told.ARGUMENT, p -> p.add(r, 2, 12, -1, 0, false));
            t.refuses("add of y 12 to the full ROW " + row, Told.ARGUMENT, p -> p.add(r, 2, -1, 12, 0, false));
            t.refuses("add of n 100 to the full ROW " + row, Told.ARGUMENT, p -> p.add(r, 2, -1, -1, 100, false));
            t.refuses("add of a RELATIVE END to the full ROW " + row, Told.ARGUMENT, p -> p.add(r, 9, -1, -1, 0, true));
            t.refuses("add to no ROW, of KIND 11", Told.INDEX, p -> p.add(5, 11, -1, -1, 0, false));
            Check.same("put in the full ROW " + row, t.press.put(row, most - 1, Told.END, -1, -1, 0, false), Told.DATA);
            Check.same("add to the next ROW", t.press.add((row + 1) % 5, Told.END, -1, -1, 0, false), 0);
            Check.same("cut of the full ROW " + row, t.press.cut(row, 0), most - 1);
            Check.same("add to the place that is free", t.press.add(row, Told.END, -1, -1, 0, false), most - 1);
            t.refuses("add to the ROW that is full again", Told.STATE, p -> p.add(r, Told.END, -1, -1, 0, false));
        }
    }

    /** The list of KINDS, and: "An x or y that is not named here is NONE; n is 0 and it is not RELATIVE, with 0, 6 and 9." */
    private static boolean mayBe(int kind, int x, int y, int n, boolean isRelative) {
        boolean isAnyN = n >= -99 && n <= 99;
        boolean isFixed = n == 0 && !isRelative;
        boolean isXAsked = x >= -1 && x <= 11;
        boolean isYAsked = y >= -1 && y <= 11;
        boolean isYName = y >= -1 && y <= 7;
        return switch (kind) {
            case 0 -> x >= 0 && x <= 9 && y == -1 && isFixed;
            case 1 -> x >= 0 && x <= 7 && isYName && isAnyN;
            case 2 -> isXAsked && isYAsked && isAnyN;
            case 3, 4 -> isXAsked && y == -1 && isAnyN;
            case 5 -> x == -1 && y == -1 && isAnyN;
            case 6, 9 -> x == -1 && y == -1 && isFixed;
            case 7 -> x == -1 && y == -1 && (n == 2 || n == 4 || n == 8) && !isRelative;
            case 8 -> x >= -1 && x <= 7 && isYName && isAnyN;
            case 10 -> x >= 1 && x <= 4 && y == -1 && isAnyN;
            default -> false;
        };
    }

    /** Each KIND with each x, y and n at and beyond their edges, told by put and by add, RELATIVE or not. */
    private static void everyLineThatMayBe() {
        int[] parts = {Told.MIN, -2, -1, 0, 1, 4, 5, 7, 8, 9, 10, 11, 12, Told.MAX};
        int[] ns = {Told.MIN, -100, -99, -8, -4, -2, -1, 0, 1, 2, 3, 4, 5, 6, 7, 8, 9, 16, 99, 100, Told.MAX};
        int[] kinds = {Told.MIN, -1, 0, 1, 2, 3, 4, 5, 6, 7, 8, 9, 10, 11, Told.MAX};
        BranchPress p = new BranchPress();
        p.add(4, Told.END, -1, -1, 0, false);
        for (int kind : kinds) {
            for (int x : parts) {
                for (int y : parts) {
                    for (int n : ns) {
                        told(p, kind, x, y, n, false);
                        told(p, kind, x, y, n, true);
                    }
                }
            }
        }
    }

    private static void told(BranchPress p, int kind, int x, int y, int n, boolean isRelative) {
        boolean isTold = true;
        p.put(4, 0, Told.END, -1, -1, 0, false);
        try {
            p.put(4, 0, kind, x, y, n, isRelative);
            p.add(4, kind, x, y, n, isRelative);
        } catch (IllegalArgumentException e) {
            isTold = false;
        }
        boolean isDue = mayBe(kind, x, y, n, isRelative);
        String line = kind + ", " + x + ", " + y + ", " + n + ", " + isRelative;
        Check.same("may be: " + line, isTold ? 1 : 0, isDue ? 1 : 0);
        int[] due = isDue ? new int[] {kind, x, y, n, isRelative ? 1 : 0} : new int[] {Told.END, -1, -1, 0, 0};
        for (int what = 0; what < 5; what++) {
            Check.same("ofLine(4, 0, " + what + ") of " + line, p.ofLine(4, 0, what), due[what]);
        }
        if (isTold) {
            Check.same("cut of " + line, p.cut(4, 1), 1);
        } else {
            Check.raises("add: " + line, Told.ARGUMENT, () -> p.add(4, kind, x, y, n, isRelative));
        }
    }

    /** wordsWith: IllegalArgumentException "if that LINE cannot have that n" */
    private static void nOfWordsWith() {
        int[][] lines = {{0, 0, -1, 0}, {1, 1, -1, 0}, {2, -1, -1, 0}, {3, -1, -1, 0}, {4, -1, -1, 0}, {5, -1, -1, 0},
            {6, -1, -1, 0}, {7, -1, -1, 2}, {8, -1, -1, 0}, {9, -1, -1, 0}, {10, 1, -1, 0}};
        int[] ns = {Told.MIN, -100, -99, -2, -1, 0, 1, 2, 3, 4, 5, 7, 8, 9, 16, 99, 100, Told.MAX};
        for (int[] l : lines) {
            for (int relative = 0; relative < 2; relative++) {
                if (!mayBe(l[0], l[1], l[2], l[3], relative == 1)) {
                    continue;
                }
                Told t = new Told();
                t.press.add(4, l[0], l[1], l[2], l[3], relative == 1);
                for (int n : ns) {
                    if (mayBe(l[0], l[1], l[2], n, relative == 1)) {
                        Check.same("wordsWith of KIND " + l[0] + ", n " + n, t.press.wordsWith(4, 0, n), 0);
                    } else {
                        t.refuses("wordsWith of KIND " + l[0] + ", n " + n, Told.ARGUMENT, p -> p.wordsWith(4, 0, n));
                    }
                }
            }
        }
    }

    /** "N of a LINE is n; if it is RELATIVE, n and ARG": N may be beyond 99, by as many CALLS as there can be. */
    private static void nAndArg() {
        for (int sign = -1; sign <= 1; sign += 2) {
            Told t = new Told().in(1).call(2, 99 * sign).relative();
            t.in(2).call(3, 99 * sign).relative();
            t.in(3).call(4, 99 * sign).relative();
            t.in(4).data(99 * sign).relative().data(99 * sign);
            t.in(0).call(1, 99 * sign);
            t.wordsAre("of ARG and n", 495 * sign, 99 * sign).itemsAre("N", 5, 495 * sign, 99 * sign, 0);
            t.in(4).put(0, Told.LOAD, -1, -1, 99 * sign);
            t.wordsAre("of a LOAD that is not RELATIVE", 5001, 99 * sign, 99 * sign);
            t.press.put(4, 0, Told.LOAD, -1, -1, -99 * sign, true);
            t.wordsAre("of a LOAD that is RELATIVE", 5001, 99 * sign, 297 * sign);
            t.press.put(3, 0, Told.CALL, 4, -1, 3, false);
            t.wordsAre("with a CALL that is not RELATIVE", 5001, 99 * sign, 3 - 99 * sign);
        }
    }

    /** "ARG (0 in MAIN, section 2)", also behind a CALL. */
    private static void argIs0InMain() {
        new Told().in(1).data(0).relative()
                .in(0).data(7).relative().call(1, 50).data(8).relative().call(1, 5).relative().jump(-1, 4).relative()
                .wordsAre("RELATIVE in MAIN", 7, 50, 8, 5, 3007);
    }

    /** "NAMES are 0 to 7; 8 and 9 are LOCAL." */
    private static void namesAndLocals() {
        Told t = new Told();
        for (int x = 0; x <= 9; x++) {
            t.label(x);
        }
        t.noFault("with a LABEL of each");
        for (int name = 0; name <= 7; name++) {
            Check.same("value(" + name + ")", t.press.value(name), 0);
        }
        int[] noNames = {-1, 8, 9, 10, Told.MIN, Told.MAX};
        for (int name : noNames) {
            t.refuses("value(" + name + ")", Told.INDEX, p -> p.value(name));
        }
        t.refuses("LABEL of 10", Told.ARGUMENT, p -> p.add(0, Told.LABEL, 10, -1, 0, false));
        t.refuses("LABEL of NONE", Told.ARGUMENT, p -> p.add(0, Told.LABEL, -1, -1, 0, false));
        t.refuses("SET of 8", Told.ARGUMENT, p -> p.add(0, Told.SET, 8, -1, 0, false));
    }

    /** "8, 9: the nearest LABEL of that LOCAL ahead of the ITEM; 10, 11: the nearest LABEL of 8, 9 behind the ITEM" */
    private static void nearestLocals() {
        for (int local = 8; local <= 9; local++) {
            int other = 17 - local;
            Told t = new Told().label(local).data(0).label(local).label(other).data(local, -1, 0);
            t.wordsAre("ahead, the nearest of two", 0, 1);
            t.label(local).data(local, -1, 0).wordsAre("ahead, right ahead", 0, 1, 2);
            t.put(0, Told.DATA, local + 2, -1, 0).wordsAre("behind, the nearest of two", 2, 0, 2, 3);
            t.put(1, Told.DATA, local + 2, local + 2, 5).wordsAre("behind, right behind", 2, 5, 2, 3);
            t.put(0, Told.DATA, other + 2, -1, 0).wordsAre("behind, the other LOCAL", 2, 5, 2, 3);
            t.put(2, Told.LABEL, other, -1, 0).faultIs("ahead, none of that LOCAL", 5, 4);
            t.put(4, Told.DATA, other, other + 2, 0).faultIs("behind, none of the other LOCAL", 5, 4);
        }
    }

    /** "NONE: 0" */
    private static void noneIs0() {
        new Told().data(-99).data(99).data(0).jump(-1, 3).branchIf(-1, 3).set(0, -1, 4).when(1).data(0, -1, 0).when(0).data(1)
                .wordsAre("of NONE", -99, 99, 0, 3007, 4006, 4);
    }

    /** "The VALUE of a LINE is N and the VALUE of x, less the VALUE of y." */
    private static void valueOfALine() {
        new Told().set(0, -1, 50).data(0).times(3).label(1).in(0).data(1, 0, 7).data(0, 1, 7).data(0, 0, -7).data(1, 1, 99)
                .data(-1, 0, 0).data(0, -1, 0).wordsAre("of x and y", 0, 0, 0, -40, 54, -7, 99, -50, 50);
    }

    /** Promise 1: "Creates a press without LINES." */
    private static void newPress() {
        Told t = new Told();
        t.noFault("of a new press");
        int[] many = {0, 0, 1, 0, 0, 0, 1, 0, 0, 0, 0, 0};
        for (int what = 0; what < 12; what++) {
            t.manyIs("of a new press", what, many[what]);
        }
        int[] pool = {Told.POOL, 0, 0, Told.NONE, 0, 0, 0, 1};
        for (int what = 0; what < 8; what++) {
            t.itemIs("of a new press", 0, what, pool[what]);
        }
        for (int name = 0; name < 8; name++) {
            Check.same("value of a new press", t.press.value(name), Told.NONE);
        }
        Check.same("meanSize of a new press", t.press.meanSize(), 0.0);
        Check.same("wrongly of a new press", t.press.wrongly(), 0);
        Check.same("longBy of a new press", t.press.longBy(0, 20), 0);
        t.refuses("longBy(1, 1) of a new press", Told.INDEX, p -> p.longBy(1, 1));
        t.refuses("longBy(-1, 1) of a new press", Told.INDEX, p -> p.longBy(-1, 1));
        t.refuses("word(0) of a new press", Told.INDEX, p -> p.word(0));
        t.refuses("itemOf(0) of a new press", Told.INDEX, p -> p.itemOf(0));
        t.refuses("isCode(0) of a new press", Told.INDEX, p -> p.isCode(0));
        t.refuses("ofItem(1, 0) of a new press", Told.INDEX, p -> p.ofItem(1, 0));
        t.refuses("distance(0) of a new press", Told.INDEX, p -> p.distance(0));
        for (int row = 0; row < 5; row++) {
            int r = row;
            t.refuses("put in an empty ROW", Told.INDEX, p -> p.put(r, 0, Told.END, -1, -1, 0, false));
            t.refuses("cut of an empty ROW", Told.INDEX, p -> p.cut(r, 0));
            t.refuses("ofLine of an empty ROW", Told.INDEX, p -> p.ofLine(r, 0, 0));
            t.refuses("wordsWithout of an empty ROW", Told.INDEX, p -> p.wordsWithout(r, 0));
            t.refuses("wordsWith of an empty ROW", Told.INDEX, p -> p.wordsWith(r, 0, 0));
        }
    }

    /** Promise 2: "Returns its number in the ROW, from 0." */
    private static void addedNumbers() {
        BranchPress p = new BranchPress();
        for (int i = 0; i < 40; i++) {
            for (int row = 0; row < 5; row++) {
                if (i < MOST[row]) {
                    Check.same("add to ROW " + row, p.add(row, Told.DATA, -1, -1, i + row, false), i);
                    Check.same("n of LINE " + i + " of ROW " + row, p.ofLine(row, i, 3), i + row);
                }
            }
        }
    }

    /** Promise 3: no ROW or LINE is ahead of what the LINE may not be. */
    private static void whatPutRefuses() {
        Told t = new Told().data(3).load(4).in(2).jump(-1, 5);
        int[] noLines = {-1, 2, 39, 40, Told.MIN, Told.MAX};
        for (int line : noLines) {
            t.refuses("put at " + line, Told.INDEX, p -> p.put(0, line, Told.END, -1, -1, 0, false));
            t.refuses("put at " + line + " of KIND 11", Told.INDEX, p -> p.put(0, line, 11, 50, 50, 500, true));
        }
        t.refuses("put at 1 of ROW 2", Told.INDEX, p -> p.put(2, 1, Told.END, -1, -1, 0, false));
        t.refuses("put in ROW 5 of KIND 11", Told.INDEX, p -> p.put(5, 0, 11, -1, -1, 0, false));
        t.refuses("put of KIND 11", Told.ARGUMENT, p -> p.put(0, 1, 11, -1, -1, 0, false));
        t.refuses("put of KIND -1", Told.ARGUMENT, p -> p.put(0, 1, -1, -1, -1, 0, false));
        t.refuses("put of a wrong x", Told.ARGUMENT, p -> p.put(2, 0, Told.JUMP, 12, -1, 0, false));
        t.refuses("put of a wrong y", Told.ARGUMENT, p -> p.put(2, 0, Told.JUMP, 0, 0, 0, false));
        t.refuses("put of a wrong n", Told.ARGUMENT, p -> p.put(2, 0, Told.JUMP, 0, -1, -100, false));
        t.refuses("put of a RELATIVE ALIGN", Told.ARGUMENT, p -> p.put(2, 0, Told.ALIGN, -1, -1, 2, true));
    }

    /** Promise 3: "Returns the KIND of that before."; no other LINE changes. */
    private static void putAtTheEnds() {
        for (int row = 0; row < 5; row++) {
            BranchPress p = new BranchPress();
            for (int i = 0; i < MOST[row]; i++) {
                p.add(row, Told.DATA, -1, -1, i, false);
            }
            int last = MOST[row] - 1;
            for (int kind = 0; kind <= 10; kind++) {
                int x = kind == Told.LABEL || kind == Told.SET || kind == Told.CALL ? 1 : -1;
                int n = kind == Told.ALIGN ? 2 : 0;
                int before = kind == 0 ? Told.DATA : kind - 1;
                Check.same("put at 0", p.put(row, 0, kind, x, -1, n, false), before);
                Check.same("put at the last", p.put(row, last, kind, x, -1, n, false), before);
                Check.same("KIND of 0", p.ofLine(row, 0, 0), kind);
                Check.same("KIND of the last", p.ofLine(row, last, 0), kind);
                Check.same("n of 1", p.ofLine(row, 1, 3), 1);
                Check.same("n of the last but one", p.ofLine(row, last - 1, 3), last - 1);
            }
            Check.same("LINES", p.many(1), MOST[row]);
        }
    }

    /** Promise 4: IndexOutOfBoundsException "if there is no such ROW, or LINE" */
    private static void whatCutRefuses() {
        Told t = new Told().data(3).load(4).in(2).jump(-1, 5);
        int[] noLines = {-1, 2, 39, 40, Told.MIN, Told.MAX};
        for (int line : noLines) {
            t.refuses("cut at " + line, Told.INDEX, p -> p.cut(0, line));
        }
        t.refuses("cut of ROW 1", Told.INDEX, p -> p.cut(1, 0));
        t.refuses("cut at 1 of ROW 2", Told.INDEX, p -> p.cut(2, 1));
        t.refuses("cut of ROW 5", Told.INDEX, p -> p.cut(5, 0));
        t.refuses("cut of ROW -1", Told.INDEX, p -> p.cut(-1, 0));
    }

    /** Promise 4: "those behind it have a number less then"; "Returns how many are left in the ROW." */
    private static void cutAtTheEnds() {
        for (int row = 0; row < 5; row++) {
            BranchPress p = new BranchPress();
            int most = MOST[row];
            p.add((row + 1) % 5, Told.END, -1, -1, 0, false);
            for (int i = 0; i < most; i++) {
                p.add(row, Told.DATA, -1, -1, i, false);
            }
            Check.same("cut of the last", p.cut(row, most - 1), most - 1);
            Check.same("n of the last that is left", p.ofLine(row, most - 2, 3), most - 2);
            Check.same("cut of the first", p.cut(row, 0), most - 2);
            Check.same("n of the first", p.ofLine(row, 0, 3), 1);
            Check.same("n of the last", p.ofLine(row, most - 3, 3), most - 2);
            Check.same("cut between", p.cut(row, 3), most - 3);
            Check.same("n ahead of it", p.ofLine(row, 2, 3), 3);
            Check.same("n behind it", p.ofLine(row, 3, 3), 5);
            for (int left = most - 4; left >= 0; left--) {
                Check.same("cut of the last left", p.cut(row, left), left);
            }
            int r = row;
            Check.raises("cut of the ROW that is empty now", Told.INDEX, () -> p.cut(r, 0));
            Check.same("LINES of the other ROW", p.many(1), 1);
            Check.same("add to the ROW that is empty now", p.add(row, Told.END, -1, -1, 0, false), 0);
        }
    }

    /** Promise 5: "what: 0 its KIND, 1 x, 2 y, 3 n, 4 1 if it is RELATIVE, otherwise 0"; no LINE is ahead of no what. */
    private static void whatOfLineRefuses() {
        Told t = new Told().in(3).data(4, 5, -6).relative().data(7, 8, 9);
        int[][] due = {{Told.DATA, 4, 5, -6, 1}, {Told.DATA, 7, 8, 9, 0}};
        for (int line = 0; line < 2; line++) {
            for (int what = 0; what < 5; what++) {
                Check.same("ofLine(3, " + line + ", " + what + ")", t.press.ofLine(3, line, what), due[line][what]);
            }
        }
        int[] noWhats = {-1, 5, Told.MIN, Told.MAX};
        for (int what : noWhats) {
            t.refuses("ofLine(3, 1, " + what + ")", Told.ARGUMENT, p -> p.ofLine(3, 1, what));
            t.refuses("ofLine(3, 2, " + what + ")", Told.INDEX, p -> p.ofLine(3, 2, what));
            t.refuses("ofLine(3, -1, " + what + ")", Told.INDEX, p -> p.ofLine(3, -1, what));
            t.refuses("ofLine(5, 0, " + what + ")", Told.INDEX, p -> p.ofLine(5, 0, what));
            t.refuses("ofLine(-1, 0, " + what + ")", Told.INDEX, p -> p.ofLine(-1, 0, what));
            t.refuses("ofLine(0, 0, " + what + ")", Told.INDEX, p -> p.ofLine(0, 0, what));
        }
        int[] noLines = {-1, 2, 9, 10, Told.MIN, Told.MAX};
        for (int line : noLines) {
            t.refuses("ofLine(3, " + line + ", 0)", Told.INDEX, p -> p.ofLine(3, line, 0));
        }
    }

    /** A LINE number is there up to the cut, and not behind it. */
    private static void lineTillCut() {
        Told t = new Told().data(1).data(2);
        Check.same("wordsWithout the last", t.press.wordsWithout(0, 1), 1);
        t.cut(1);
        t.refuses("ofLine of the one that was cut", Told.INDEX, p -> p.ofLine(0, 1, 0));
        t.refuses("put of the one that was cut", Told.INDEX, p -> p.put(0, 1, Told.END, -1, -1, 0, false));
        t.refuses("cut of the one that was cut", Told.INDEX, p -> p.cut(0, 1));
        t.refuses("wordsWithout of the one that was cut", Told.INDEX, p -> p.wordsWithout(0, 1));
        t.refuses("wordsWith of the one that was cut", Told.INDEX, p -> p.wordsWith(0, 1, 0));
        t.refuses("longBy behind the end", Told.INDEX, p -> p.longBy(2, 1));
        Check.same("longBy at the end", t.press.longBy(1, 1), 0);
    }

    /** "An object is used for at most 512 calls after it has been made" */
    private static void callsUpTo512() {
        BranchPress p = new BranchPress();
        for (int call = 0; call < 255; call++) {
            Check.same("add", p.add(0, Told.DATA, -1, -1, call % 100, false), 0);
            Check.same("cut", p.cut(0, 0), 0);
        }
        Check.same("call 511: add", p.add(0, Told.JUMP, -1, -1, 7, false), 0);
        Check.same("call 512: word", p.word(0), 3014);
    }
}
