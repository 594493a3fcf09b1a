/** Promise by promise: what is due is worked out by hand from the document. */
public final class PromisesTest {
    private static final int LABEL = 0, SET = 1, DATA = 2, JUMP = 3, IF = 4, LOAD = 5;
    private static final int POOL = 6, ALIGN = 7, WHEN = 8, END = 9, CALL = 10;
    private static final int NONE = -1;
    private static final Class<IndexOutOfBoundsException> INDEX = IndexOutOfBoundsException.class;
    private static final Class<IllegalArgumentException> ARGUMENT = IllegalArgumentException.class;
    private static final Class<IllegalStateException> STATE = IllegalStateException.class;

    public static void main(String[] args) {
        newObject();
        addNumbers();
        addWrong();
        addWhatIsAllowed();
        putCutOfLine();
        faultOfDepth();
        faultOfItems();
        faultOfLines();
        faultOfNames();
        faultOfValues();
        faultOfPools();
        whens();
        ofItem();
        words();
        locals();
        setsAndValues();
        followed();
        followedEnds();
        many();
        rounds();
        meanSize();
        wordsWithout();
        wordsWith();
        distance();
        wrongly();
        longBy();
        digest();
        Check.finish("PromisesTest");
    }

    private static void data(BranchPress p, int row, int times) {
        for (int i = 0; i < times; i++) {
            p.add(row, DATA, NONE, NONE, i, false);
        }
    }

    private static void call(BranchPress p, int row, int called, int times) {
        for (int i = 0; i < times; i++) {
            p.add(row, CALL, called, NONE, 0, false);
        }
    }

    private static void fault(String when, BranchPress p, int fault, int at) {
        Check.same("fault " + when, p.fault(), fault);
        Check.same("faultAt " + when, p.faultAt(), at);
    }

    private static void item(BranchPress p, int item, int... due) {
        for (int what = 0; what < 8; what++) {
            Check.same("ofItem(" + item + ", " + what + ")", p.ofItem(item, what), due[what]);
        }
    }

    private static void wordsAre(String when, BranchPress p, int... due) {
        Check.same("many(3) " + when, p.many(3), due.length);
        for (int i = 0; i < due.length; i++) {
            Check.same("word(" + i + ") " + when, p.word(i), due[i]);
        }
        Check.raises("word behind all " + when, INDEX, () -> p.word(due.length));
        Check.raises("word(-1) " + when, INDEX, () -> p.word(-1));
    }

    private static void newObject() {
        BranchPress p = new BranchPress();
        fault("of a new object", p, 0, NONE);
        int[] due = {0, 0, 1, 0, 0, 0, 1, 0, 0, 0, 0, 0};
        for (int what = 0; what < 12; what++) {
            Check.same("new many(" + what + ")", p.many(what), due[what]);
        }
        item(p, 0, POOL, 0, 0, NONE, 0, 0, 0, 1);
        for (int row = 0; row < 5; row++) {
            int r = row;
            Check.raises("new ofLine", INDEX, () -> p.ofLine(r, 0, 0));
        }
    }

    private static void addNumbers() {
        for (int row = 0; row < 5; row++) {
            BranchPress p = new BranchPress();
            int most = row == 0 ? 40 : 10;
            for (int i = 0; i < most; i++) {
                Check.same("add", p.add(row, DATA, NONE, NONE, i, false), i);
                Check.same("many(1)", p.many(1), i + 1);
            }
            int r = row;
            long before = p.digest();
            Check.raises("add to a full ROW", STATE, () -> p.add(r, END, NONE, NONE, 0, false));
            Check.raises("add of a wrong KIND to a full ROW", ARGUMENT, () -> p.add(r, 11, NONE, NONE, 0, false));
            Check.same("digest after", p.digest(), before);
            Check.same("cut", p.cut(row, 0), most - 1);
            Check.same("add", p.add(row, END, NONE, NONE, 0, false), most - 1);
        }
    }

    private static void addWrong() {
        BranchPress p = new BranchPress();
        int far = Integer.MAX_VALUE;
        int[] noRows = {-1, 5, far, Integer.MIN_VALUE};
        for (int row : noRows) {
            Check.raises("add to ROW " + row, INDEX, () -> p.add(row, DATA, NONE, NONE, 0, false));
            Check.raises("add of KIND 11 to ROW " + row, INDEX, () -> p.add(row, 11, NONE, NONE, 0, false));
        }
        int[] noKinds = {-1, 11, far, Integer.MIN_VALUE};
        for (int kind : noKinds) {
            Check.raises("add of KIND " + kind, ARGUMENT, () -> p.add(0, kind, NONE, NONE, 0, false));
        }
        Check.same("many(1)", p.many(1), 0);
    }

    /** Every KIND with every part at and beyond its edges, by the words of section 1. */
    private static void addWhatIsAllowed() {
        int[][] x = {{0, 9}, {0, 7}, {-1, 11}, {-1, 11}, {-1, 11}, {-1, -1}, {-1, -1}, {-1, -1}, {-1, 7}, {-1, -1}, {1, 4}};
        int[][] y = {{-1, -1}, {-1, 7}, {-1, 11}, {-1, -1}, {-1, -1}, {-1, -1}, {-1, -1}, {-1, -1}, {-1, 7}, {-1, -1}, {-1, -1}};
        for (int kind = 0; kind <= 10; kind++) {
            int n = kind == ALIGN ? 4 : 0;
            for (int i = -3; i <= 14; i++) {
                allowed(kind, i, y[kind][0], n, false, i >= x[kind][0] && i <= x[kind][1]);
                allowed(kind, x[kind][1], i, n, false, i >= y[kind][0] && i <= y[kind][1]);
            }
            boolean isFixed = kind == LABEL || kind == POOL || kind == END || kind == ALIGN;
            allowed(kind, x[kind][1], y[kind][0], n, true, !isFixed);
            for (int i = -110; i <= 110; i++) {
                boolean may = kind == ALIGN ? i == 2 || i == 4 || i == 8 : isFixed ? i == 0 : i >= -99 && i <= 99;
                allowed(kind, x[kind][1], y[kind][0], i, false, may);
            }
            allowed(kind, Integer.MIN_VALUE, y[kind][0], n, false, false);
            allowed(kind, x[kind][0], Integer.MAX_VALUE, n, false, false);
            allowed(kind, x[kind][0], y[kind][0], Integer.MIN_VALUE, false, false);
        }
    }

    private static void allowed(int kind, int x, int y, int n, boolean isRelative, boolean due) {
        BranchPress p = new BranchPress();
        p.add(2, END, NONE, NONE, 0, false);
        String call = "add(2, " + kind + ", " + x + ", " + y + ", " + n + ", " + isRelative + ")";
        if (!due) {
            Check.raises(call, ARGUMENT, () -> p.add(2, kind, x, y, n, isRelative));
            Check.raises("put for " + call, ARGUMENT, () -> p.put(2, 0, kind, x, y, n, isRelative));
            Check.same("ofLine kind", p.ofLine(2, 0, 0), END);
            return;
        }
        Check.same(call, p.add(2, kind, x, y, n, isRelative), 1);
        Check.same("put for " + call, p.put(2, 0, kind, x, y, n, isRelative), END);
        int[] parts = {kind, x, y, n, isRelative ? 1 : 0};
        for (int what = 0; what < 5; what++) {
            Check.same("ofLine of " + call, p.ofLine(2, 1, what), parts[what]);
            Check.same("ofLine of put " + call, p.ofLine(2, 0, what), parts[what]);
        }
    }

    private static void putCutOfLine() {
        BranchPress p = new BranchPress();
        data(p, 0, 3);
        p.add(3, JUMP, 2, NONE, -5, true);
        Check.same("put", p.put(0, 1, LOAD, NONE, NONE, 7, true), DATA);
        Check.same("put", p.put(0, 1, SET, 3, 4, -9, true), LOAD);
        Check.same("x", p.ofLine(0, 1, 1), 3);
        Check.same("y", p.ofLine(0, 1, 2), 4);
        Check.same("n", p.ofLine(0, 1, 3), -9);
        Check.same("relative", p.ofLine(0, 1, 4), 1);
        Check.same("relative", p.ofLine(0, 0, 4), 0);
        Check.raises("put in ROW 5", INDEX, () -> p.put(5, 0, 11, NONE, NONE, 0, false));
        Check.raises("put in ROW -1", INDEX, () -> p.put(-1, 0, DATA, NONE, NONE, 0, false));
        Check.raises("put at 3", INDEX, () -> p.put(0, 3, 11, NONE, NONE, 0, false));
        Check.raises("put at -1", INDEX, () -> p.put(0, -1, DATA, NONE, NONE, 0, false));
        Check.raises("put of KIND 11", ARGUMENT, () -> p.put(0, 2, 11, NONE, NONE, 0, false));
        Check.raises("ofLine, no ROW", INDEX, () -> p.ofLine(5, 0, 5));
        Check.raises("ofLine, no LINE", INDEX, () -> p.ofLine(0, 3, 5));
        Check.raises("ofLine, LINE -1", INDEX, () -> p.ofLine(0, -1, 0));
        Check.raises("ofLine, what 5", ARGUMENT, () -> p.ofLine(0, 0, 5));
        Check.raises("ofLine, what -1", ARGUMENT, () -> p.ofLine(0, 0, -1));
        Check.raises("cut, no ROW", INDEX, () -> p.cut(-1, 0));
        Check.raises("cut, ROW 5", INDEX, () -> p.cut(5, 0));
        Check.raises("cut, no LINE", INDEX, () -> p.cut(0, 3));
        Check.raises("cut, LINE -1", INDEX, () -> p.cut(0, -1));
        Check.raises("cut of an empty ROW", INDEX, () -> p.cut(4, 0));
        Check.same("cut", p.cut(0, 1), 2);
        Check.same("n of 0", p.ofLine(0, 0, 3), 0);
        Check.same("n of 1", p.ofLine(0, 1, 3), 2);
        Check.same("cut", p.cut(0, 0), 1);
        Check.same("n of 0", p.ofLine(0, 0, 3), 2);
        Check.same("many(0)", p.many(0), 1);
        Check.same("many(1)", p.many(1), 2);
        Check.same("cut", p.cut(3, 0), 0);
        Check.same("many(1)", p.many(1), 1);
    }

    /** ROW 1 counts its ARG down to 0, so MAIN's n is the deepest DEPTH less 1. */
    private static void faultOfDepth() {
        BranchPress p = new BranchPress();
        p.add(1, WHEN, NONE, NONE, 0, true);
        p.add(1, DATA, NONE, NONE, 0, true);
        p.add(1, CALL, 1, NONE, -1, true);
        p.add(0, END, NONE, NONE, 0, false);
        p.add(0, CALL, 1, NONE, 4, false);
        fault("of DEPTH 5", p, 0, NONE);
        wordsAre("of DEPTH 5", p, 4, 3, 2, 1);
        Check.same("DEPTH of the first", p.ofItem(0, 4), 1);
        Check.same("DEPTH of the last", p.ofItem(3, 4), 4);
        Check.same("LINE of the last", p.ofItem(3, 3), 1);
        p.put(0, 1, CALL, 1, NONE, 5, false);
        fault("of DEPTH 6", p, 1, 1);
        BranchPress empty = new BranchPress();
        empty.add(1, CALL, 1, NONE, 0, false);
        empty.add(0, CALL, 1, NONE, 0, true);
        fault("of a ROW that calls itself", empty, 1, 0);
    }

    private static void faultOfItems() {
        BranchPress p = new BranchPress();
        data(p, 1, 10);
        call(p, 0, 1, 12);
        fault("with 120 ITEMS", p, 0, NONE);
        Check.same("many(2)", p.many(2), 121);
        Check.same("the last POOL", p.ofItem(120, 0), POOL);
        Check.raises("ITEM 121", INDEX, () -> p.ofItem(121, 0));
        p.add(0, END, NONE, NONE, 0, false);
        p.add(0, WHEN, NONE, NONE, 1, false);
        p.add(0, CALL, 4, NONE, 0, false);
        fault("with lines that are no ITEMS", p, 0, NONE);
        p.add(0, WHEN, NONE, NONE, 0, false);
        p.add(0, LABEL, 0, NONE, 0, false);
        fault("with an ITEM left out", p, 0, NONE);
        p.put(0, 15, WHEN, NONE, NONE, 1, false);
        fault("with 121 ITEMS", p, 2, 16);
        p.put(0, 16, SET, 0, 1, 0, false);
        fault("2 is ahead of 3", p, 2, 16);
        p.put(0, 0, SET, 0, 1, 0, false);
        fault("what comes first", p, 3, 0);
    }

    private static void faultOfLines() {
        BranchPress p = new BranchPress();
        for (int i = 0; i < 10; i++) {
            p.add(1, END, NONE, NONE, 0, false);
        }
        call(p, 2, 1, 10);
        call(p, 0, 2, 3);
        call(p, 0, 1, 6);
        p.add(0, END, NONE, NONE, 0, false);
        fault("with 400 LINES", p, 0, NONE);
        p.add(0, END, NONE, NONE, 0, false);
        fault("with 401 LINES", p, 2, 10);
        p.put(0, 10, WHEN, 0, NONE, 0, false);
        fault("2 is ahead of 3, of a LINE", p, 2, 10);
        p.put(0, 9, WHEN, 0, NONE, 0, false);
        fault("3 comes first", p, 3, 9);
        p.put(0, 9, WHEN, NONE, NONE, 0, false);
        fault("with LINES left out", p, 0, NONE);
        p.add(0, END, NONE, NONE, 0, false);
        fault("with the END that closes", p, 0, NONE);
        p.put(0, 10, END, NONE, NONE, 0, false);
        fault("with the END as LINE 401", p, 2, 10);
        p.put(0, 9, CALL, 1, NONE, 0, false);
        fault("in a ROW", p, 2, 9);
    }

    private static void faultOfNames() {
        BranchPress p = new BranchPress();
        p.add(0, SET, 1, 2, 0, false);
        fault("SET of one that is not SET", p, 3, 0);
        p.put(0, 0, LABEL, 1, NONE, 0, false);
        p.add(0, LABEL, 1, NONE, 0, false);
        fault("LABEL twice", p, 4, 1);
        p.put(0, 1, SET, 1, NONE, 0, false);
        fault("SET behind its LABEL", p, 4, 1);
        p.put(0, 1, SET, 1, 2, 0, false);
        fault("3 is ahead of 4", p, 3, 1);
        p.put(0, 1, SET, 2, 1, 0, false);
        fault("a LABEL is not SET", p, 3, 1);
        p.put(0, 1, WHEN, 1, NONE, 5, false);
        fault("WHEN of a LABEL", p, 3, 1);
        p.put(0, 1, WHEN, NONE, 2, 5, false);
        fault("WHEN, y not SET", p, 3, 1);
        p.put(0, 0, SET, 1, NONE, 0, false);
        p.put(0, 1, LABEL, 1, NONE, 0, false);
        fault("LABEL behind its SET", p, 4, 1);
        p.put(0, 1, SET, 1, 1, 3, false);
        fault("SET again", p, 0, NONE);
        Check.same("value", p.value(1), 3);
        p.put(0, 0, LABEL, 8, NONE, 0, false);
        p.put(0, 1, LABEL, 8, NONE, 0, false);
        fault("LOCAL twice", p, 0, NONE);
        p.put(0, 0, WHEN, NONE, NONE, 0, false);
        p.put(0, 1, WHEN, 1, NONE, 0, false);
        fault("left out", p, 0, NONE);
    }

    private static void faultOfValues() {
        BranchPress p = new BranchPress();
        p.add(0, LOAD, NONE, NONE, 1, false);
        data(p, 0, 20);
        fault("6", p, 6, 0);
        p.add(0, JUMP, 3, NONE, 0, false);
        fault("5 is ahead of 6", p, 5, 21);
        p.add(0, SET, 3, NONE, 0, false);
        fault("SET only behind", p, 5, 21);
        p.put(0, 22, LABEL, 3, NONE, 0, false);
        fault("LABEL behind will do", p, 6, 0);
        for (int local = 8; local <= 9; local++) {
            BranchPress q = new BranchPress();
            q.add(0, IF, local, NONE, 0, false);
            q.add(0, LABEL, local, NONE, 0, false);
            fault("LOCAL is not ahead", q, 5, 0);
            q.put(0, 0, IF, local + 2, NONE, 0, false);
            fault("LOCAL is behind", q, 0, NONE);
            q.add(0, DATA, NONE, local + 2, 0, false);
            fault("LOCAL is not behind", q, 5, 2);
            q.put(0, 2, DATA, local, NONE, 0, false);
            fault("LOCAL is ahead", q, 0, NONE);
            q.add(1, DATA, 17 - local, local, 0, false);
            q.add(0, CALL, 1, NONE, 0, false);
            fault("by a CALL", q, 5, 3);
        }
        BranchPress r = new BranchPress();
        r.add(0, SET, 0, NONE, 1, false);
        r.add(0, DATA, 0, 1, 0, false);
        r.add(0, DATA, 1, 0, 0, false);
        fault("the first ITEM that has it", r, 5, 1);
        Check.raises("value with a FAULT", INDEX, () -> r.value(0));
        Check.raises("ofItem with a FAULT", INDEX, () -> r.ofItem(0, 8));
        Check.raises("word with a FAULT", INDEX, () -> r.word(0));
        Check.raises("itemOf with a FAULT", INDEX, () -> r.itemOf(0));
        Check.raises("isCode with a FAULT", INDEX, () -> r.isCode(0));
        Check.raises("distance with a FAULT", INDEX, () -> r.distance(0));
    }

    private static void faultOfPools() {
        BranchPress p = new BranchPress();
        p.add(0, LOAD, NONE, NONE, 1, false);
        data(p, 0, 15);
        fault("16 above", p, 0, NONE);
        Check.same("word(0)", p.word(0), 5015);
        p.add(0, DATA, NONE, NONE, 0, false);
        fault("17 above", p, 6, 0);
        p.put(0, 16, POOL, NONE, NONE, 0, false);
        p.add(0, DATA, NONE, NONE, 0, false);
        fault("with a POOL between", p, 0, NONE);
        BranchPress q = new BranchPress();
        q.add(1, LOAD, NONE, NONE, 0, true);
        q.add(0, LOAD, NONE, NONE, 5, false);
        q.add(0, CALL, 1, NONE, 6, false);
        data(q, 0, 14);
        fault("the N at place 1 is 16 above", q, 0, NONE);
        q.add(0, LOAD, NONE, NONE, 6, false);
        fault("the first LOAD is 17 below", q, 6, 0);
        q.put(0, 0, DATA, NONE, NONE, 0, false);
        fault("only one N", q, 0, NONE);
        q.add(0, LOAD, NONE, NONE, 7, false);
        fault("by a CALL", q, 6, 1);
    }

    private static void whens() {
        BranchPress p = new BranchPress();
        p.add(0, SET, 1, NONE, 4, false);
        p.add(0, SET, 2, NONE, 3, false);
        p.add(0, WHEN, 1, 2, -1, false);
        p.add(0, DATA, NONE, NONE, 10, false);
        p.add(0, WHEN, NONE, NONE, 1, false);
        p.add(0, DATA, NONE, NONE, 11, false);
        p.add(0, END, NONE, NONE, 0, false);
        p.add(0, DATA, NONE, NONE, 12, false);
        p.add(0, END, NONE, NONE, 0, false);
        p.add(0, DATA, NONE, NONE, 13, false);
        wordsAre("all left out but one", p, 13);
        p.put(0, 2, WHEN, 1, 2, 0, false);
        wordsAre("nothing left out", p, 10, 11, 12, 13);
        p.put(0, 4, WHEN, NONE, NONE, 0, false);
        wordsAre("the inner left out", p, 10, 12, 13);
        p.put(0, 6, POOL, NONE, NONE, 0, false);
        wordsAre("one END less", p, 10, 13);
        p.put(0, 8, POOL, NONE, NONE, 0, false);
        wordsAre("no END", p, 10);
        BranchPress q = new BranchPress();
        q.add(1, WHEN, NONE, NONE, -5, true);
        q.add(1, DATA, NONE, NONE, 1, true);
        q.add(0, CALL, 1, NONE, 5, false);
        q.add(0, DATA, NONE, NONE, 2, true);
        q.add(0, END, NONE, NONE, 0, false);
        q.add(0, CALL, 1, NONE, 6, true);
        wordsAre("to the end of the ROW alone", q, 2, 7);
    }

    private static void ofItem() {
        BranchPress p = new BranchPress();
        p.add(1, LOAD, NONE, NONE, 3, true);
        p.add(1, SET, 4, NONE, 2, true);
        p.add(2, CALL, 1, NONE, 10, true);
        p.add(0, LABEL, 8, NONE, 0, false);
        p.add(0, CALL, 2, NONE, 20, true);
        p.add(0, IF, NONE, NONE, 50, false);
        p.add(0, JUMP, 8, NONE, 0, true);
        p.add(0, ALIGN, NONE, NONE, 8, false);
        p.add(0, DATA, 4, NONE, -2, false);
        item(p, 0, LABEL, 0, 0, 0, 0, 0, 0, 1);
        item(p, 1, LOAD, 0, 1, 1, 2, 33, 0, 1);
        item(p, 2, SET, 1, 0, 1, 2, 32, 0, 1);
        item(p, 3, IF, 1, 3, 2, 0, 50, 1, 1);
        item(p, 4, JUMP, 4, 1, 3, 0, 0, 0, 1);
        item(p, 5, ALIGN, 5, 3, 4, 0, 8, 0, 0);
        item(p, 6, DATA, 8, 1, 5, 0, -2, 0, 0);
        item(p, 7, POOL, 9, 1, NONE, 0, 0, 0, 0);
        wordsAre("of all KINDS", p, 5008, 4100, 3100, 50, 3003, 0, 0, 0, 30, 33);
        int[] items = {1, 3, 3, 3, 4, 5, 5, 5, 6, 7};
        for (int address = 0; address < 10; address++) {
            Check.same("itemOf(" + address + ")", p.itemOf(address), items[address]);
            Check.same("isCode(" + address + ")", p.isCode(address) ? 1 : 0, address < 5 ? 1 : 0);
        }
        int[] noAddresses = {-1, 10, Integer.MAX_VALUE, Integer.MIN_VALUE};
        for (int address : noAddresses) {
            Check.raises("itemOf(" + address + ")", INDEX, () -> p.itemOf(address));
            Check.raises("isCode(" + address + ")", INDEX, () -> p.isCode(address));
            Check.raises("word(" + address + ")", INDEX, () -> p.word(address));
            Check.raises("ofItem(" + address + ", 0)", INDEX, () -> p.ofItem(address, 0));
        }
        Check.raises("ofItem(8, 8)", INDEX, () -> p.ofItem(8, 8));
        Check.raises("ofItem(0, 8)", ARGUMENT, () -> p.ofItem(0, 8));
        Check.raises("ofItem(0, -1)", ARGUMENT, () -> p.ofItem(0, -1));
    }

    private static void words() {
        BranchPress p = new BranchPress();
        p.add(0, JUMP, NONE, NONE, 8, false);
        p.add(0, JUMP, NONE, NONE, -6, false);
        p.add(0, IF, NONE, NONE, 10, false);
        p.add(0, IF, NONE, NONE, -4, false);
        wordsAre("at the edges of SHORT", p, 3015, 3000, 4015, 4000);
        p.put(0, 3, IF, NONE, NONE, -5, false);
        wordsAre("an IF too far back", p, 3015, 3000, 4015, 4100, 3100, -5);
        p.put(0, 3, JUMP, NONE, NONE, -5, false);
        wordsAre("a JUMP too far back", p, 3015, 3000, 4015, 3100, -5);
        p.put(0, 3, JUMP, NONE, NONE, 12, false);
        wordsAre("a JUMP too far ahead", p, 3015, 3000, 4015, 3100, 12);
        BranchPress q = new BranchPress();
        int[] ns = {4, -3, 4, 9};
        for (int n : ns) {
            q.add(0, LOAD, NONE, NONE, n, false);
        }
        q.add(0, POOL, NONE, NONE, 0, false);
        q.add(0, POOL, NONE, NONE, 0, false);
        q.add(0, ALIGN, NONE, NONE, 2, false);
        q.add(0, LOAD, NONE, NONE, 9, false);
        q.add(0, LOAD, NONE, NONE, -3, false);
        wordsAre("of POOLS", q, 5003, 5003, 5001, 5002, 4, -3, 9, 0, 5001, 5001, 9, -3);
        Check.same("SIZE of the empty POOL", q.ofItem(5, 2), 0);
        BranchPress r = new BranchPress();
        r.add(0, ALIGN, NONE, NONE, 8, false);
        r.add(0, DATA, NONE, NONE, 1, false);
        r.add(0, ALIGN, NONE, NONE, 4, false);
        r.add(0, ALIGN, NONE, NONE, 2, false);
        r.add(0, DATA, NONE, NONE, 1, false);
        r.add(0, ALIGN, NONE, NONE, 8, false);
        wordsAre("of ALIGNS", r, 1, 0, 0, 0, 1, 0, 0, 0);
    }

    private static void locals() {
        BranchPress p = new BranchPress();
        p.add(0, LABEL, 8, NONE, 0, false);
        p.add(0, DATA, 8, 10, 0, false);
        p.add(0, LABEL, 9, NONE, 0, false);
        p.add(0, LABEL, 8, NONE, 0, false);
        p.add(0, DATA, 8, 9, 5, false);
        p.add(0, DATA, 10, 11, 0, false);
        p.add(1, LABEL, 8, NONE, 0, false);
        p.add(1, DATA, 8, NONE, 0, true);
        p.add(0, CALL, 1, NONE, 40, false);
        p.add(0, DATA, 8, NONE, 0, false);
        p.add(0, LABEL, 9, NONE, 0, false);
        wordsAre("of LOCALS", p, -1, 5, -2, 43, 3);
    }

    private static void setsAndValues() {
        BranchPress p = new BranchPress();
        p.add(0, SET, 0, NONE, 5, false);
        p.add(0, DATA, 0, 3, 0, false);
        p.add(0, SET, 0, 0, 2, false);
        p.add(0, DATA, 3, 0, 0, false);
        p.add(0, SET, 0, 0, -9, true);
        p.add(0, SET, 1, 0, 99, false);
        p.add(0, LABEL, 3, NONE, 0, false);
        wordsAre("of SETS", p, 3, -5);
        int[] due = {-2, 97, NONE, 2, NONE, NONE, NONE, NONE};
        for (int name = 0; name < 8; name++) {
            Check.same("value(" + name + ")", p.value(name), due[name]);
        }
        int[] noNames = {-1, 8, 9, Integer.MAX_VALUE, Integer.MIN_VALUE};
        for (int name : noNames) {
            Check.raises("value(" + name + ")", INDEX, () -> p.value(name));
        }
    }

    private static void followedAre(String when, BranchPress p, String due) {
        StringBuilder got = new StringBuilder();
        for (int item = 0; item < p.many(2); item++) {
            got.append(p.ofItem(item, 7));
        }
        if (!got.toString().equals(due)) {
            Check.same("followed " + when + ": " + got + ", due " + due, 1, 0);
        }
    }

    private static void followed() {
        BranchPress p = new BranchPress();
        p.add(0, IF, 0, NONE, 0, false);
        p.add(0, LOAD, NONE, NONE, 0, false);
        p.add(0, POOL, NONE, NONE, 0, false);
        p.add(0, DATA, NONE, NONE, 0, false);
        p.add(0, LABEL, 0, NONE, 0, false);
        p.add(0, JUMP, NONE, NONE, 6, false);
        p.add(0, LOAD, NONE, NONE, 0, false);
        p.add(0, SET, 1, NONE, 0, false);
        p.add(0, POOL, NONE, NONE, 0, false);
        p.add(0, JUMP, NONE, NONE, 0, false);
        followedAre("over an IF and a JUMP", p, "11001101000");
        p.put(0, 8, ALIGN, NONE, NONE, 2, false);
        p.put(0, 5, JUMP, NONE, NONE, 5, false);
        followedAre("over an ALIGN of no SIZE", p, "11001111110");
        p.put(0, 8, ALIGN, NONE, NONE, 4, false);
        followedAre("up to an ALIGN with a SIZE", p, "11001111000");
        p.put(0, 6, POOL, NONE, NONE, 0, false);
        followedAre("over a POOL of no SIZE", p, "11001111000");
        Check.same("CODE words", p.many(10), 3);
        // the JUMP at 8 is LONG, back to 0
        Check.same("words that are no CODE", p.many(11), 2);
    }

    private static void followedEnds() {
        BranchPress p = new BranchPress();
        p.add(0, JUMP, 0, NONE, 0, false);
        p.add(0, DATA, NONE, NONE, 0, false);
        p.add(0, LABEL, 0, NONE, 0, false);
        followedAre("to a LABEL at the end, of no word", p, "1000");
        p.put(0, 0, IF, NONE, NONE, -1, false);
        followedAre("to an address below 0", p, "1000");
        p.put(0, 0, JUMP, NONE, NONE, 50, false);
        p.put(0, 1, JUMP, NONE, NONE, 0, false);
        followedAre("to an address above all", p, "1000");
        p.put(0, 0, IF, NONE, NONE, 3, false);
        p.put(0, 1, IF, NONE, NONE, 50, false);
        followedAre("to an address inside of an ITEM", p, "1111");
        p.put(0, 0, JUMP, NONE, NONE, 3, false);
        followedAre("to an address inside of an ITEM alone", p, "1000");
        p.put(0, 0, DATA, NONE, NONE, 3, false);
        followedAre("from DATA", p, "0000");
        p.put(0, 0, LABEL, 8, NONE, 0, false);
        p.put(0, 1, JUMP, 8, NONE, 0, false);
        followedAre("in a ring", p, "1100");
        p.put(0, 0, JUMP, 0, NONE, 0, false);
        p.put(0, 1, LABEL, 0, NONE, 0, false);
        p.put(0, 2, SET, 1, NONE, 0, false);
        p.add(0, DATA, NONE, NONE, 0, false);
        followedAre("to the first ITEM of an address", p, "11100");
    }

    private static void many() {
        BranchPress p = new BranchPress();
        p.add(2, LOAD, NONE, NONE, 0, true);
        p.add(4, END, NONE, NONE, 0, false);
        p.add(0, CALL, 2, NONE, 5, false);
        p.add(0, CALL, 2, NONE, 6, false);
        p.add(0, JUMP, NONE, NONE, 99, false);
        p.add(0, IF, NONE, NONE, 8, false);
        p.add(0, LOAD, NONE, NONE, 6, false);
        p.add(0, ALIGN, NONE, NONE, 4, false);
        p.add(0, IF, NONE, NONE, 99, false);
        // addresses: 0, 1, 2 (LONG), 4, 5, 6 (2 words), 8 (LONG), 11 the POOL of 5 and 6
        int[] due = {7, 9, 8, 13, 3, 2, 2, 3, 2, 2, 4, 5};
        for (int what = 0; what < 12; what++) {
            Check.same("many(" + what + ")", p.many(what), due[what]);
        }
        p.add(0, DATA, 0, NONE, 0, false);
        for (int what = 0; what < 12; what++) {
            Check.same("many(" + what + ") with a FAULT", p.many(what), what == 0 ? 8 : what == 1 ? 10 : NONE);
        }
        int[] noWhats = {-1, 12, Integer.MAX_VALUE, Integer.MIN_VALUE};
        for (int what : noWhats) {
            Check.raises("many(" + what + ")", ARGUMENT, () -> p.many(what));
        }
    }

    /** The second JUMP gets too far only when the first one is LONG, and so on backwards. */
    private static void rounds() {
        BranchPress p = new BranchPress();
        p.add(0, LABEL, 0, NONE, 0, false);
        data(p, 0, 6);
        p.add(0, IF, 0, NONE, 0, false);
        p.add(0, IF, 1, NONE, 0, false);
        data(p, 0, 6);
        p.add(0, JUMP, NONE, NONE, 99, false);
        p.add(0, LABEL, 1, NONE, 0, false);
        Check.same("LONG", p.many(5), 2);
        Check.same("ROUNDS", p.many(6), 3);
        Check.same("value(1)", p.value(1), 18);
        Check.same("DISTANCE", p.distance(8), 10);
        Check.same("DISTANCE of the one that stays", p.distance(7), -7);
        BranchPress q = new BranchPress();
        q.add(0, IF, NONE, NONE, 40, false);
        q.add(0, IF, NONE, NONE, 9, false);
        Check.same("all of one ROUND by the same addresses", q.many(6), 2);
        Check.same("only one is LONG", q.many(5), 1);
    }

    private static void meanSize() {
        BranchPress p = new BranchPress();
        Check.same("meanSize", p.meanSize(), 0.0);
        p.add(0, IF, NONE, NONE, 99, false);
        Check.same("meanSize", p.meanSize(), 1.5);
        p.add(0, LABEL, 0, NONE, 0, false);
        p.add(0, LOAD, NONE, NONE, 0, false);
        p.add(0, DATA, NONE, NONE, 0, false);
        p.add(0, DATA, NONE, NONE, 0, false);
        p.add(0, SET, 1, NONE, 0, false);
        Check.same("meanSize", p.meanSize(), 1.0);
        p.cut(0, 3);
        p.cut(0, 2);
        p.cut(0, 1);
        Check.same("meanSize", p.meanSize(), 1.0);
        p.put(0, 1, LABEL, 0, NONE, 0, false);
        p.add(0, LABEL, 8, NONE, 0, false);
        p.add(0, LABEL, 8, NONE, 0, false);
        p.add(0, LABEL, 8, NONE, 0, false);
        Check.same("meanSize", p.meanSize(), 3 / 7.0);
        p.add(0, LABEL, 0, NONE, 0, false);
        Check.same("meanSize with a FAULT", p.meanSize(), 0.0);
    }

    private static void wordsWithout() {
        BranchPress p = new BranchPress();
        data(p, 2, 3);
        p.add(0, CALL, 2, NONE, 0, false);
        p.add(0, CALL, 2, NONE, 0, false);
        p.add(0, LABEL, 0, NONE, 0, false);
        p.add(0, DATA, 0, NONE, 0, false);
        long before = p.digest();
        Check.same("without a LINE of a ROW", p.wordsWithout(2, 1), 5);
        Check.same("without a CALL", p.wordsWithout(0, 0), 4);
        Check.same("without the LABEL", p.wordsWithout(0, 2), -15);
        Check.same("without the DATA", p.wordsWithout(0, 3), 6);
        Check.same("digest after", p.digest(), before);
        Check.raises("wordsWithout(0, 4)", INDEX, () -> p.wordsWithout(0, 4));
        Check.raises("wordsWithout(0, -1)", INDEX, () -> p.wordsWithout(0, -1));
        Check.raises("wordsWithout(5, 0)", INDEX, () -> p.wordsWithout(5, 0));
        Check.raises("wordsWithout(-1, 0)", INDEX, () -> p.wordsWithout(-1, 0));
        Check.raises("wordsWithout(1, 0)", INDEX, () -> p.wordsWithout(1, 0));
        p.put(0, 2, LABEL, 1, NONE, 0, false);
        Check.same("with a FAULT now", p.wordsWithout(0, 3), 6);
        Check.same("with a FAULT now and then", p.wordsWithout(0, 0), -15);
    }

    private static void wordsWith() {
        BranchPress p = new BranchPress();
        p.add(1, WHEN, NONE, NONE, 0, true);
        p.add(1, DATA, NONE, NONE, 0, false);
        p.add(1, CALL, 1, NONE, -1, true);
        p.add(0, CALL, 1, NONE, 2, false);
        p.add(0, ALIGN, NONE, NONE, 2, false);
        p.add(0, LABEL, 0, NONE, 0, false);
        p.add(0, JUMP, 0, NONE, 0, false);
        long before = p.digest();
        Check.same("words", p.many(3), 3);
        Check.same("CALL with 4", p.wordsWith(0, 0, 4), 5);
        Check.same("CALL with -99", p.wordsWith(0, 0, -99), 1);
        Check.same("CALL with 5", p.wordsWith(0, 0, 5), -11);
        Check.same("WHEN with 1", p.wordsWith(1, 0, 1), 5);
        Check.same("ALIGN with 8", p.wordsWith(0, 1, 8), 9);
        Check.same("LABEL with 0", p.wordsWith(0, 2, 0), 3);
        Check.same("JUMP with 50", p.wordsWith(0, 3, 50), 4);
        Check.same("digest after", p.digest(), before);
        int[] noAligns = {0, 1, 3, -2, 16, 99};
        for (int n : noAligns) {
            Check.raises("ALIGN with " + n, ARGUMENT, () -> p.wordsWith(0, 1, n));
        }
        Check.raises("LABEL with 1", ARGUMENT, () -> p.wordsWith(0, 2, 1));
        Check.raises("JUMP with 100", ARGUMENT, () -> p.wordsWith(0, 3, 100));
        Check.raises("JUMP with -100", ARGUMENT, () -> p.wordsWith(0, 3, -100));
        Check.raises("no LINE", INDEX, () -> p.wordsWith(0, 4, 100));
        Check.raises("LINE -1", INDEX, () -> p.wordsWith(0, -1, 0));
        Check.raises("no ROW", INDEX, () -> p.wordsWith(5, 0, 100));
        Check.raises("ROW -1", INDEX, () -> p.wordsWith(-1, 0, 100));
    }

    private static void distance() {
        BranchPress p = new BranchPress();
        p.add(0, LABEL, 0, NONE, 0, false);
        p.add(0, JUMP, 0, NONE, 0, false);
        p.add(0, IF, 0, NONE, 60, false);
        p.add(0, JUMP, NONE, NONE, -99, false);
        p.add(0, DATA, NONE, NONE, 0, false);
        Check.same("SHORT", p.distance(1), -1);
        Check.same("LONG ahead", p.distance(2), 58);
        Check.same("LONG back", p.distance(3), -104);
        int[] noBranches = {0, 4, 5, 6, -1, Integer.MAX_VALUE, Integer.MIN_VALUE};
        for (int item : noBranches) {
            Check.raises("distance(" + item + ")", INDEX, () -> p.distance(item));
        }
    }

    private static void wrongly() {
        BranchPress p = new BranchPress();
        Check.same("wrongly of a new object", p.wrongly(), 0);
        p.add(0, JUMP, 0, NONE, 0, false);
        data(p, 0, 7);
        p.add(0, ALIGN, NONE, NONE, 8, false);
        p.add(0, LABEL, 0, NONE, 0, false);
        Check.same("SHORT", p.many(5), 0);
        Check.same("wrongly, none LONG", p.wrongly(), 0);
        p.put(0, 7, JUMP, NONE, NONE, 50, false);
        Check.same("LONG", p.many(5), 2);
        Check.same("wrongly, both needed", p.wrongly(), 0);
        BranchPress q = oneWronglyLong();
        Check.same("LONG, one needed", q.many(5), 2);
        long before = q.digest();
        Check.same("wrongly, one needed", q.wrongly(), 1);
        Check.same("digest after", q.digest(), before);
        q.put(0, 0, DATA, NONE, NONE, 0, false);
        Check.same("wrongly, the ALIGN as in ROUND 1", q.wrongly(), 0);
        q.add(0, DATA, 7, NONE, 0, false);
        Check.same("wrongly with a FAULT", q.wrongly(), 0);
    }

    /**
     * ROUND 1: JUMP 0, DATA 1 and 2, JUMP 3, ALIGN 4 (4 words), DATA 8 to 11, LABEL 12, which is 8 away: both LONG.
     * With the second one SHORT: JUMP 0, DATA 2 and 3, JUMP 4, ALIGN 5 (3 words), LABEL 12, which is 7 away.
     */
    private static BranchPress oneWronglyLong() {
        BranchPress p = new BranchPress();
        p.add(0, JUMP, NONE, NONE, 99, false);
        data(p, 0, 2);
        p.add(0, JUMP, 0, NONE, 0, false);
        p.add(0, ALIGN, NONE, NONE, 8, false);
        data(p, 0, 4);
        p.add(0, LABEL, 0, NONE, 0, false);
        return p;
    }

    private static void longBy() {
        BranchPress p = new BranchPress();
        p.add(0, JUMP, 0, NONE, 0, false);
        data(p, 0, 3);
        p.add(0, LABEL, 0, NONE, 0, false);
        p.add(0, JUMP, NONE, NONE, 12, false);
        long before = p.digest();
        Check.same("4 more between", p.longBy(1, 4), 0);
        Check.same("5 more between", p.longBy(1, 5), 1);
        Check.same("5 more ahead of the LABEL", p.longBy(4, 5), 1);
        Check.same("5 more behind it", p.longBy(5, 5), 0);
        Check.same("17 more behind it", p.longBy(5, 17), 1);
        Check.same("20 more ahead of all", p.longBy(0, 20), 1);
        Check.same("20 more behind all", p.longBy(6, 20), 0);
        Check.same("digest after", p.digest(), before);
        p.put(0, 5, JUMP, NONE, NONE, 13, false);
        Check.same("one fewer", p.longBy(0, 1), -1);
        Check.same("one fewer, one more", p.longBy(1, 8), 0);
        Check.raises("longBy(7, 0)", INDEX, () -> p.longBy(7, 0));
        Check.raises("longBy(-1, 1)", INDEX, () -> p.longBy(-1, 1));
        Check.raises("longBy(0, 0)", ARGUMENT, () -> p.longBy(0, 0));
        Check.raises("longBy(6, 21)", ARGUMENT, () -> p.longBy(6, 21));
        p.add(0, LOAD, NONE, NONE, 1, false);
        Check.same("a LOAD gets too far", p.longBy(7, 16), -1006);
        p.add(0, DATA, 7, NONE, 0, false);
        Check.same("with a FAULT now", p.longBy(0, 1), 0);
        Check.raises("longBy(9, 1) with a FAULT", INDEX, () -> p.longBy(9, 1));
        Check.raises("longBy(0, 21) with a FAULT", ARGUMENT, () -> p.longBy(0, 21));
        longByBeyond();
    }

    private static void longByBeyond() {
        BranchPress p = new BranchPress();
        p.add(0, JUMP, 0, NONE, 0, false);
        data(p, 0, 5);
        p.add(0, LABEL, 0, NONE, 0, false);
        data(p, 0, 33);
        Check.same("LINES of MAIN", p.many(0), 40);
        Check.same("longBy of a full MAIN", p.longBy(1, 20), 1);
        Check.same("longBy at the end of a full MAIN", p.longBy(40, 20), 0);
        data(p, 1, 10);
        for (int line = 32; line < 40; line++) {
            p.put(0, line, CALL, 1, NONE, 0, false);
        }
        Check.same("ITEMS", p.many(2), 113);
        Check.same("up to 120 ITEMS", p.longBy(40, 8), 0);
        Check.same("beyond 120 ITEMS", p.longBy(40, 9), -1002);
        p.put(0, 31, WHEN, NONE, NONE, 0, false);
        Check.same("left out", p.longBy(40, 20), 0);
    }

    private static void digest() {
        Check.same("digest of a new object", new BranchPress().digest(), -2364142139903650490L);
        BranchPress p = oneWronglyLong();
        digestIs("without a FAULT", p);
        p.add(0, LABEL, 0, NONE, 0, false);
        digestIs("with a FAULT", p);
    }

    private static void digestIs(String when, BranchPress p) {
        long d = 7619;
        for (int what = 0; what < 12; what++) {
            d = d * 31 + p.many(what);
        }
        d = (d * 31 + p.fault()) * 31 + p.faultAt();
        for (int line = 0; line < p.many(0); line++) {
            d = d * 31 + p.wordsWithout(0, line);
        }
        if (p.fault() == 0) {
            for (int i = 0; i < p.many(2) * 8; i++) {
                d = d * 31 + p.ofItem(i / 8, i % 8);
            }
            for (int address = 0; address < p.many(3); address++) {
                d = d * 31 + p.word(address);
            }
            for (int name = 0; name < 8; name++) {
                d = d * 31 + p.value(name);
            }
            d = d * 31 + p.wrongly();
        }
        Check.same("digest " + when, p.digest(), d);
    }
}
