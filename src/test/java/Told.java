import java.util.function.Consumer;

/** A press that is told LINES one behind the other, and looked at; made for tests that say one edge each. */
final class Told {
    static final int LABEL = 0, SET = 1, DATA = 2, JUMP = 3, IF = 4, LOAD = 5;
    static final int POOL = 6, ALIGN = 7, WHEN = 8, END = 9, CALL = 10;
    static final int NONE = -1;
    static final int MIN = Integer.MIN_VALUE, MAX = Integer.MAX_VALUE;
    static final Class<IndexOutOfBoundsException> INDEX = IndexOutOfBoundsException.class;
    static final Class<IllegalArgumentException> ARGUMENT = IllegalArgumentException.class;
    static final Class<IllegalStateException> STATE = IllegalStateException.class;

    final BranchPress press = new BranchPress();
    private int row = 0;
    private int last = NONE;

    /** What is told from here on goes to that ROW. */
    Told in(int which) {
        row = which;
        last = NONE;
        return this;
    }

    Told line(int kind, int x, int y, int n) {
        last = press.add(row, kind, x, y, n, false);
        return this;
    }

    /** Makes the LINE that was told last RELATIVE. */
    Told relative() {
        press.put(row, last, press.ofLine(row, last, 0), press.ofLine(row, last, 1), press.ofLine(row, last, 2),
                press.ofLine(row, last, 3), true);
        return this;
    }

    /** Tells the LINE that was told last some times more. */
    Told times(int all) {
        int from = last;
        for (int i = 1; i < all; i++) {
            last = press.add(row, press.ofLine(row, from, 0), press.ofLine(row, from, 1), press.ofLine(row, from, 2),
                    press.ofLine(row, from, 3), press.ofLine(row, from, 4) == 1);
        }
        return this;
    }

    Told label(int x) {
        return line(LABEL, x, NONE, 0);
    }

    Told set(int x, int y, int n) {
        return line(SET, x, y, n);
    }

    Told data(int x, int y, int n) {
        return line(DATA, x, y, n);
    }

    Told data(int n) {
        return line(DATA, NONE, NONE, n);
    }

    Told jump(int x, int n) {
        return line(JUMP, x, NONE, n);
    }

    Told branchIf(int x, int n) {
        return line(IF, x, NONE, n);
    }

    Told load(int n) {
        return line(LOAD, NONE, NONE, n);
    }

    Told pool() {
        return line(POOL, NONE, NONE, 0);
    }

    Told align(int n) {
        return line(ALIGN, NONE, NONE, n);
    }

    Told when(int x, int y, int n) {
        return line(WHEN, x, y, n);
    }

    Told when(int n) {
        return line(WHEN, NONE, NONE, n);
    }

    Told end() {
        return line(END, NONE, NONE, 0);
    }

    Told call(int called, int n) {
        return line(CALL, called, NONE, n);
    }

    Told put(int line, int kind, int x, int y, int n) {
        press.put(row, line, kind, x, y, n, false);
        return this;
    }

    Told cut(int line) {
        press.cut(row, line);
        return this;
    }

    Told faultIs(String when, int fault, int at) {
        Check.same("fault() " + when, press.fault(), fault);
        Check.same("faultAt() " + when, press.faultAt(), at);
        return this;
    }

    Told noFault(String when) {
        return faultIs(when, 0, NONE);
    }

    Told manyIs(String when, int what, int due) {
        Check.same("many(" + what + ") " + when, press.many(what), due);
        return this;
    }

    Told itemIs(String when, int item, int what, int due) {
        Check.same("ofItem(" + item + ", " + what + ") " + when, press.ofItem(item, what), due);
        return this;
    }

    /** All ITEMS' answers to one question, the POOL behind all too. */
    Told itemsAre(String when, int what, int... due) {
        Check.same("many(2) " + when, press.many(2), due.length);
        for (int item = 0; item < due.length; item++) {
            itemIs(when, item, what, due[item]);
        }
        return this;
    }

    Told wordsAre(String when, int... due) {
        Check.same("fault() " + when, press.fault(), 0);
        Check.same("many(3) " + when, press.many(3), due.length);
        for (int address = 0; address < due.length && address < press.many(3); address++) {
            Check.same("word(" + address + ") " + when, press.word(address), due[address]);
        }
        return this;
    }

    /** A call that throws what is due, and changes nothing. */
    Told refuses(String call, Class<? extends RuntimeException> due, Consumer<BranchPress> body) {
        String before = state();
        Check.raises(call, due, () -> body.accept(press));
        Check.same(call + " changes nothing", state().equals(before) ? 1 : 0, 1);
        return this;
    }

    /** All LINES, and what comes of them. */
    String state() {
        StringBuilder all = new StringBuilder();
        for (int in = 0; in < 5; in++) {
            for (int line = 0; line < countOf(in); line++) {
                for (int what = 0; what < 5; what++) {
                    all.append(press.ofLine(in, line, what)).append(' ');
                }
            }
            all.append(';');
        }
        return all.append(press.digest()).toString();
    }

    /** How many LINES a ROW has, as ofLine tells. */
    int countOf(int in) {
        int line = 0;
        try {
            while (line <= 40) {
                press.ofLine(in, line, 0);
                line++;
            }
        } catch (IndexOutOfBoundsException e) {
            return line;
        }
        return line;
    }
}
