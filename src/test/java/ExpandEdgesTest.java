/** Section 2 and promises 6 and 7: each sentence that names an edge of expanding. */
public final class ExpandEdgesTest {
    public static void main(String[] args) {
        whichLinesAreItems();
        callWithArg();
        depthOfFive();
        depthOfSix();
        depthIsThatOfNow();
        fault1OfAnEmptyRow();
        whenAbove0();
        whenAsSetSoFar();
        whenNotSet();
        whenLeavesOut();
        whensBetween();
        whenWithoutEnd();
        endAlone();
        setFromThenOn();
        setNotSet();
        setOfALabel();
        labelTwice();
        itemsUpTo120();
        everyKindAsItem121();
        noItemsBehind120();
        linesUpTo400();
        everyKindAsLine401();
        linesLeftOut();
        fault2IsAhead();
        fault3IsAheadOf4();
        expandingEnds();
        faultInARow();
        poolBehindAll();
        Check.finish("ExpandEdgesTest");
    }

    /** ROW 1 counts its ARG down to 0 and gives a DATA of it each time: the deepest DEPTH is MAIN's n and 1. */
    private static Told countingDown(int n) {
        return new Told().in(1).data(0).relative().when(0).relative().call(1, -1).relative()
                .in(0).end().call(1, n).data(50);
    }

    /** Ten ENDS in ROW 1, and 100 + 10 LINES by a CALL of ROW 2. */
    private static Told manyEnds() {
        return new Told().in(1).end().times(10).in(2).call(1, 0).times(10).in(0);
    }

    /** "(LABEL, SET, DATA, JUMP, IF, LOAD, POOL and ALIGN one each)", "numbered from 0" */
    private static void whichLinesAreItems() {
        new Told().when(1).end().label(0).set(1, -1, 0).call(4, 0).data(0).jump(0, 0).branchIf(0, 0).load(0).pool().align(2)
                .end().when(1)
                .itemsAre("KIND", 0, 0, 1, 2, 3, 4, 5, 6, 7, 6)
                .itemsAre("LINE", 3, 2, 3, 5, 6, 7, 8, 9, 10, Told.NONE);
    }

    /** "the LINES of its ROW are expanded in its place, with its N as ARG" */
    private static void callWithArg() {
        new Told().in(1).data(0).relative().call(2, 10).relative().data(0).relative().call(2, 10).data(0).relative()
                .in(2).data(1).relative().data(1)
                .in(0).data(7).call(1, 20).data(8).call(1, -20).relative().data(9)
                .wordsAre("by CALLS", 7, 20, 31, 1, 20, 11, 1, 20, 8, -20, -9, 1, -20, 11, 1, -20, 9)
                .itemsAre("DEPTH", 4, 0, 1, 2, 2, 1, 2, 2, 1, 0, 1, 2, 2, 1, 2, 2, 1, 0, 0)
                .itemsAre("LINE", 3, 0, 1, 1, 1, 1, 1, 1, 1, 2, 3, 3, 3, 3, 3, 3, 3, 4, Told.NONE)
                .itemIs("N of the POOL behind CALLS", 17, 5, 0);
    }

    /** "In MAIN the DEPTH is 0; in a ROW that is called, 1 more" up to 5. */
    private static void depthOfFive() {
        countingDown(4).noFault("of DEPTH 5").wordsAre("of DEPTH 5", 4, 3, 2, 1, 0, 50)
                .itemsAre("DEPTH", 4, 1, 2, 3, 4, 5, 0, 0);
        new Told().in(1).call(2, 0).data(1).in(2).call(3, 0).data(2).in(3).call(4, 0).data(3).in(4).data(4)
                .in(0).call(1, 0).itemsAre("DEPTH of other ROWS", 4, 4, 3, 2, 1, 0).wordsAre("of other ROWS", 4, 3, 2, 1);
    }

    /** "FAULT 1, if that would be 6" */
    private static void depthOfSix() {
        countingDown(5).faultIs("of DEPTH 6", 1, 1);
        countingDown(99).faultIs("of a DEPTH far beyond", 1, 1);
        new Told().in(4).call(4, 0).in(0).data(0).data(0).call(4, 0).faultIs("of a ROW that calls itself", 1, 2);
        Told ring = new Told().in(1).call(2, 0).in(2).call(1, 0).in(0).call(2, 0);
        ring.faultIs("of ROWS that call one another", 1, 0).in(1).cut(0).noFault("of the ring that is open");
    }

    /** The DEPTH is not how many CALLS there were: back in MAIN it is 0 again. */
    private static void depthIsThatOfNow() {
        countingDown(4).call(1, 4).call(1, 4).noFault("of DEPTH 5 again and again");
        countingDown(4).call(1, 4).call(1, 5).faultIs("of DEPTH 6 at the last", 1, 4);
        new Told().in(1).call(2, 0).times(10).in(0).call(1, 0).times(30).noFault("of many CALLS");
    }

    /** FAULT 1 is of the CALL, whatever the ROW holds; one that is left out is none. */
    private static void fault1OfAnEmptyRow() {
        Told t = new Told().in(1).when(0).relative().call(1, -1).relative().end().call(3, 0).in(0).call(1, 4);
        t.faultIs("of an empty ROW at DEPTH 6", 1, 0);
        t.in(1).put(3, Told.END, -1, -1, 0).noFault("without that CALL");
        t.put(3, Told.WHEN, -1, -1, 0).call(3, 0).noFault("with that CALL left out");
        t.put(3, Told.WHEN, -1, -1, 1).faultIs("with that CALL left in", 1, 0);
    }

    /** "If it is above 0, it goes on; otherwise all LINES behind it in this ROW and ahead of its END are left out" */
    private static void whenAbove0() {
        int[] ns = {-98, -1, 0, 1, 2, 99};
        for (int n : ns) {
            boolean goesOn = n > 0;
            Told t = new Told().data(1).when(n).data(2).end().data(3);
            t.itemsAre("N of WHEN " + n, 5, goesOn ? new int[] {1, 2, 3, 0} : new int[] {1, 3, 0});
            Told called = new Told().in(1).when(-n).relative().data(2).end().in(0).call(1, n).when(-5).relative().data(4);
            called.itemsAre("N of a RELATIVE WHEN " + n, 5, 0);
            called.in(1).put(0, Told.WHEN, -1, -1, n);
            called.itemsAre("N of a WHEN that is not RELATIVE " + n, 5, goesOn ? new int[] {2, 0} : new int[] {0});
            called.press.put(1, 0, Told.WHEN, -1, -1, 1 - n, true);
            called.itemsAre("N of a RELATIVE WHEN of 1", 5, 2, 0);
        }
    }

    /** "WHEN: its VALUE, with the NAMES as they are SET so far" */
    private static void whenAsSetSoFar() {
        for (int name = 0; name < 8; name++) {
            int other = 7 - name;
            Told t = new Told().set(name, -1, 5).set(other, -1, 6).when(name, other, 1).data(1).end().set(name, -1, 20);
            t.wordsAre("VALUE 0 of " + name);
            t.put(1, Told.SET, other, -1, 5).wordsAre("VALUE 1 of " + name, 1);
            t.put(2, Told.WHEN, -1, name, 5).wordsAre("VALUE 0 of y " + name);
            t.put(2, Told.WHEN, -1, name, 6).wordsAre("VALUE 1 of y " + name, 1);
            t.put(2, Told.WHEN, name, -1, -5).wordsAre("VALUE 0 of x " + name);
            t.put(2, Told.WHEN, name, -1, -4).wordsAre("VALUE 1 of x " + name, 1);
            t.put(2, Told.WHEN, name, name, 1).wordsAre("VALUE 1 of x less x " + name, 1);
            t.put(2, Told.WHEN, name, name, 0).wordsAre("VALUE 0 of x less x " + name);
        }
    }

    /** "FAULT 3, if one of them is not": by x, by y, of a LABEL, SET only behind, SET in what is left out. */
    private static void whenNotSet() {
        for (int name = 0; name < 8; name++) {
            new Told().when(name, -1, 9).faultIs("WHEN of x " + name, 3, 0);
            new Told().when(-1, name, 9).faultIs("WHEN of y " + name, 3, 0);
            new Told().when(name, -1, -9).faultIs("WHEN of x " + name + " below 0", 3, 0);
            new Told().set(7 - name, -1, 0).when(7 - name, name, 9).faultIs("WHEN, y alone not SET", 3, 1);
            new Told().set(7 - name, -1, 0).when(name, 7 - name, 9).faultIs("WHEN, x alone not SET", 3, 1);
            new Told().label(name).when(name, -1, 9).faultIs("WHEN of a LABEL", 3, 1);
            new Told().when(name, -1, 9).set(name, -1, 0).faultIs("WHEN ahead of the SET", 3, 0);
            new Told().when(0).set(name, -1, 0).end().when(name, -1, 9).faultIs("SET left out", 3, 3);
        }
        new Told().in(1).set(3, -1, 4).in(0).call(1, 0).when(3, -1, -3).data(1).wordsAre("SET in a ROW", 1);
        new Told().in(1).when(3, -1, 0).in(0).data(0).call(1, 0).faultIs("WHEN in a ROW", 3, 1);
    }

    /** "left out": they do nothing at all, whatever they are. */
    private static void whenLeavesOut() {
        Told t = new Told().label(0).when(0).label(0).set(0, -1, 0).set(1, 2, 0).when(3, -1, 1).data(5, -1, 0).jump(11, 0)
                .branchIf(9, 0).end().call(1, 0).load(0).end().data(9).in(1).call(1, 0);
        t.wordsAre("of what is left out", 9).itemsAre("LINE", 3, 0, 13, Told.NONE);
        Check.same("value of a SET left out", t.press.value(1), Told.NONE);
        t.in(0).put(1, Told.WHEN, -1, -1, 1).faultIs("of what is left in", 4, 2);
    }

    /** "(each WHEN between has its own END ...)" */
    private static void whensBetween() {
        Told t = new Told().when(0).when(1).when(0).end().data(1).end().data(2).end().data(3).end().data(4);
        t.wordsAre("two between, left out", 3, 4);
        t.put(0, Told.WHEN, -1, -1, 1).wordsAre("the outer goes on", 1, 2, 3, 4);
        t.put(1, Told.WHEN, -1, -1, 0).wordsAre("the one between is left out", 2, 3, 4);
        t.put(2, Told.DATA, -1, -1, 7).wordsAre("none between", 1, 2, 3, 4);
        t.put(0, Told.WHEN, -1, -1, 0).wordsAre("one between, the ENDS as before", 2, 3, 4);
        t.put(1, Told.WHEN, -1, -1, 1).wordsAre("one between that would go on", 2, 3, 4);
        t.put(0, Told.END, -1, -1, 0).wordsAre("one alone that goes on", 7, 1, 2, 3, 4);
        new Told().when(0).end().data(1).when(0).end().data(2).wordsAre("nothing between", 1, 2);
        new Told().when(0).end().when(0).data(1).end().data(2).wordsAre("a WHEN right behind", 2);
    }

    /** "without an END up to the end of the ROW": what is behind the CALL goes on. */
    private static void whenWithoutEnd() {
        new Told().data(1).when(0).data(2).data(3).wordsAre("without an END", 1);
        new Told().data(1).when(0).when(0).data(2).end().data(3).wordsAre("with the END of the one between alone", 1);
        new Told().data(1).data(2).when(0).wordsAre("as the last LINE", 1, 2);
        new Told().in(1).data(1).when(0).data(2).in(0).call(1, 0).data(3).end().data(4).wordsAre("of a ROW", 1, 3, 4);
        new Told().in(1).end().data(5).in(0).when(0).call(1, 0).data(1).end().data(2).wordsAre("END of another ROW", 2);
        new Told().in(1).data(1).when(0).in(2).call(1, 0).data(2).in(0).call(2, 0).data(3).wordsAre("of a ROW in a ROW", 1, 2, 3);
    }

    /** "END: nothing" */
    private static void endAlone() {
        new Told().end().data(1).end().end().data(2).end().in(1).end().wordsAre("of ENDS alone", 1, 2).noFault("of ENDS alone");
        new Told().in(1).end().data(5).in(0).when(1).call(1, 0).end().end().data(2).wordsAre("of ENDS too many", 5, 2);
    }

    /** "the NAME x is from then on the VALUE of y and N, with y as it is SET so far"; "A NAME can be SET again." */
    private static void setFromThenOn() {
        Told t = new Told().set(7, -1, -3).set(0, 7, 10).data(0, 7, 0).set(7, 7, 99).data(0, 7, 0).set(7, 7, 99).data(7, -1, 0);
        t.wordsAre("of SETS", 10, -89, 195);
        Check.same("value(0)", t.press.value(0), 7);
        Check.same("value(7)", t.press.value(7), 195);
        t.set(7, 0, -8).data(7, -1, 0).wordsAre("of a SET once more", 10, -89, 195, -1);
        Check.same("value(7) that is -1", t.press.value(7), -1);
        Told relative = new Told().in(1).set(3, -1, 4).relative().set(4, 3, 5).relative().data(3, 4, 0).relative()
                .in(0).call(1, 20).data(3, -1, 0).data(4, -1, 0);
        relative.wordsAre("of RELATIVE SETS", 24 - 49 + 20, 24, 49).itemsAre("N", 5, 24, 25, 20, 0, 0, 0);
    }

    /** SET: "(FAULT 3, if it is not)" */
    private static void setNotSet() {
        for (int name = 0; name < 8; name++) {
            new Told().set(name, name, 0).faultIs("SET of itself", 3, 0);
            new Told().set(7 - name, name, 0).faultIs("SET of one that is not", 3, 0);
            new Told().label(name).set(7 - name, name, 0).faultIs("SET of a LABEL", 3, 1);
            new Told().set(7 - name, name, 0).set(name, -1, 0).faultIs("SET of one that is SET behind", 3, 0);
            new Told().set(name, -1, 1).set(name, name, 1).set(7 - name, name, 1).noFault("SET of one that is");
            new Told().set(name, -1, 5).cut(0).set(7 - name, name, 0).faultIs("SET of one whose SET was cut", 3, 0);
        }
    }

    /** SET: "FAULT 4, if there was a LABEL of it." */
    private static void setOfALabel() {
        for (int name = 0; name < 8; name++) {
            new Told().label(name).set(name, -1, 0).faultIs("SET behind its LABEL", 4, 1);
            new Told().label(name).set(7 - name, -1, 0).noFault("SET behind another LABEL");
            new Told().when(0).label(name).end().set(name, -1, 0).noFault("SET behind its LABEL, left out");
            new Told().label(name).cut(0).set(name, -1, 0).noFault("SET behind its LABEL, cut");
        }
        new Told().label(8).label(9).set(0, -1, 0).set(1, -1, 0).noFault("SET behind LOCALS");
    }

    /** "LABEL of 0 to 7: FAULT 4, if there was a LABEL of it, or it was SET."; 8 and 9 may come again. */
    private static void labelTwice() {
        for (int name = 0; name < 8; name++) {
            new Told().label(name).label(name).faultIs("LABEL twice", 4, 1);
            new Told().set(name, -1, 0).label(name).faultIs("LABEL behind its SET", 4, 1);
            new Told().label(name).label(7 - name).noFault("LABELS of two NAMES");
            new Told().set(name, -1, 0).label(7 - name).noFault("LABEL behind another SET");
            new Told().when(0).label(name).set(name, -1, 0).end().label(name).noFault("LABEL behind what is left out");
            Told called = new Told().in(1).label(name).in(0).call(1, 0).data(0).call(1, 0);
            called.faultIs("LABEL in a ROW that is called twice", 4, 2).cut(2).noFault("LABEL in a ROW that is called once");
        }
        new Told().label(8).times(20).label(9).times(20).noFault("LOCALS again and again");
        new Told().in(1).label(8).label(9).in(0).call(1, 0).times(40).noFault("LOCALS in a ROW that is called again and again");
    }

    /** "An ITEM behind 120 is FAULT 2"; POOLS that were told are ITEMS as others are. */
    private static void itemsUpTo120() {
        Told t = new Told().in(1).pool().times(10).in(0).call(1, 0).times(11).pool().times(9);
        t.noFault("of 119 ITEMS").manyIs("of 119 ITEMS", 2, 120).data(1);
        t.noFault("of 120 ITEMS").manyIs("of 120 ITEMS", 2, 121).itemIs("of 120 ITEMS", 120, 0, Told.POOL);
        t.itemIs("of 120 ITEMS", 120, 3, Told.NONE).itemIs("of 120 ITEMS", 119, 3, 20);
        t.refuses("ofItem(121, 0)", Told.INDEX, p -> p.ofItem(121, 0));
        t.data(2).faultIs("of 121 ITEMS", 2, 21).data(3).faultIs("of 122 ITEMS", 2, 21);
        t.put(0, Told.END, -1, -1, 0).noFault("of 112 ITEMS").manyIs("of 112 ITEMS", 2, 113);
        t.put(0, Told.CALL, 1, -1, 0).faultIs("of 122 ITEMS again", 2, 21);
        new Told().in(1).data(0).times(10).in(0).call(1, 0).times(13).faultIs("of 121 ITEMS, in a ROW", 2, 12);
    }

    private static Told with120Items() {
        return new Told().in(1).data(0).times(9).label(8).in(0).call(1, 0).times(12);
    }

    /** Of any KIND that is an ITEM, 121 of them are too many. */
    private static void everyKindAsItem121() {
        int[][] items = {{0, 0, 0}, {0, 8, 0}, {1, 0, 0}, {2, -1, 0}, {3, 8, 0}, {4, 8, 0}, {5, -1, 0}, {6, -1, 0}, {7, -1, 8}};
        for (int[] l : items) {
            with120Items().line(l[0], l[1], -1, l[2]).faultIs("KIND " + l[0] + " as ITEM 121", 2, 12);
            with120Items().in(1).cut(0).in(0).line(l[0], l[1], -1, l[2]).noFault("KIND " + l[0] + " as ITEM 109");
        }
    }

    /** WHEN, END and CALL are no ITEMS, nor is what is left out. */
    private static void noItemsBehind120() {
        with120Items().end().when(1).call(4, 0).when(0).data(0).label(0).end().noFault("of no ITEMS behind 120");
        with120Items().end().in(4).end().in(0).call(4, 0).noFault("of a CALL without ITEMS").manyIs("of 120", 2, 121);
        with120Items().in(4).end().data(0).in(0).end().call(4, 0).faultIs("of a CALL with an ITEM", 2, 13);
    }

    /** "and so is a LINE behind 400 that are expanded (those of ROWS each time that they are ...)" */
    private static void linesUpTo400() {
        // 1 + 10 + 100 each: 333, and 6 times 11: 399
        Told t = manyEnds().call(2, 0).times(3).call(1, 0).times(6);
        t.noFault("of 399 LINES").end().noFault("of 400 LINES").end().faultIs("of 401 LINES", 2, 10);
        t.end().faultIs("of 402 LINES", 2, 10);
        t.in(1).cut(0).noFault("of fewer LINES in the ROW").end().faultIs("of 402 LINES again", 2, 10);
        manyEnds().call(2, 0).times(4).faultIs("of 444 LINES, in a ROW of a ROW", 2, 3);
        manyEnds().call(2, 0).times(3).call(1, 0).times(7).faultIs("of 410 LINES, in a ROW", 2, 9);
    }

    private static Told with400Lines() {
        return manyEnds().call(2, 0).times(3).call(1, 0).times(6).end();
    }

    /** Each KIND of LINE counts. */
    private static void everyKindAsLine401() {
        int[][] lines = {{0, 8, 0}, {1, 0, 0}, {2, -1, 0}, {3, -1, 5}, {4, -1, 5}, {5, -1, 0}, {6, -1, 0}, {7, -1, 8},
            {8, -1, 1}, {8, -1, 0}, {9, -1, 0}, {10, 4, 0}};
        for (int[] l : lines) {
            String when = "KIND " + l[0] + ", n " + l[2];
            Told t = with400Lines().line(l[0], l[1], -1, l[2]).faultIs(when + " as LINE 401", 2, 10);
            t.cut(9).noFault(when + " as LINE 400").end().faultIs("an END behind " + when, 2, 10);
        }
    }

    /** "those that are left out do not count", but "END ... is expanded", also that of a WHEN that leaves out. */
    private static void linesLeftOut() {
        Told t = with400Lines().put(9, Told.WHEN, -1, -1, 0).call(2, 0).data(0).times(3).noFault("with LINES left out");
        t.end().faultIs("with the END as LINE 401", 2, 14);
        t.put(8, Told.END, -1, -1, 0).noFault("with the END as LINE 391");
        t.put(9, Told.WHEN, -1, -1, 1).faultIs("with LINES left in", 2, 10);
        Told called = manyEnds().in(1).put(0, Told.WHEN, -1, -1, 0).put(9, Told.DATA, -1, -1, 0).in(0).call(2, 0).times(7);
        // 1 + 10 + 20 each: a WHEN and its END, 7 between are left out; then DATA, too
        called.in(1).put(1, Told.DATA, -1, -1, 0).put(8, Told.DATA, -1, -1, 0);
        for (int line = 2; line < 8; line++) {
            called.put(line, Told.DATA, -1, -1, 0);
        }
        called.noFault("of 147 LINES, without an END").in(0).call(2, 0).times(12).noFault("of 399 LINES, without an END");
        called.end().noFault("of 400 LINES, without an END").end().faultIs("of 401 LINES, without an END", 2, 20);
        called.cut(20).in(1).put(9, Told.END, -1, -1, 0).faultIs("with an END in the ROW", 2, 12);
    }

    /** "of one LINE FAULT 2 is ahead of the others": by the ITEMS, and by the LINES. */
    private static void fault2IsAhead() {
        with120Items().set(0, 1, 0).faultIs("ITEM 121: not 3", 2, 12);
        Told labels = new Told().in(1).data(0).times(10).in(0).label(1).set(2, -1, 0).call(1, 0).times(11).data(0).times(8);
        labels.noFault("of 120 ITEMS with NAMES");
        labels.label(1).faultIs("ITEM 121: not 4 of LABEL twice", 2, 21);
        labels.put(21, Told.LABEL, 2, -1, 0).faultIs("ITEM 121: not 4 of LABEL of a SET", 2, 21);
        labels.put(21, Told.SET, 1, -1, 0).faultIs("ITEM 121: not 4 of SET of a LABEL", 2, 21);
        labels.put(21, Told.SET, 3, 4, 0).faultIs("ITEM 121: not 3 of SET", 2, 21);
        labels.put(21, Told.DATA, 5, -1, 0).faultIs("ITEM 121: not 5", 2, 21);
        labels.put(21, Told.WHEN, 5, -1, 0).faultIs("no ITEM: 3", 3, 21);
        Told lines = with400Lines().put(9, Told.LABEL, 1, -1, 0);
        lines.label(1).faultIs("LINE 401: not 4 of LABEL twice", 2, 10);
        lines.put(10, Told.SET, 1, -1, 0).faultIs("LINE 401: not 4 of SET of a LABEL", 2, 10);
        lines.put(10, Told.SET, 2, 3, 0).faultIs("LINE 401: not 3 of SET", 2, 10);
        lines.put(10, Told.WHEN, 3, -1, 0).faultIs("LINE 401: not 3 of WHEN", 2, 10);
        fault2IsAheadOf1();
    }

    /** The CALL at DEPTH 5 is LINE 401: 333 and 33 + 24 of ROWS 1 and 2, then 10 of the way down. */
    private static void fault2IsAheadOf1() {
        Told t = manyEnds().in(3).when(0).relative().call(3, -1).relative().end().call(4, 0);
        // ROW 3 by 4: a CALL, then WHEN and CALL at DEPTHS 1 to 4, WHEN and END at DEPTH 5, and its CALL of ROW 4
        t.in(0).call(2, 0).times(3).call(1, 0).times(5).end().call(3, 4);
        t.faultIs("a CALL at DEPTH 5 as LINE " + (333 + 55 + 1 + 1 + 8 + 3), 2, 9);
        t.cut(8).faultIs("a CALL at DEPTH 5 as LINE 400", 1, 8);
    }

    /** "and 3 of 4" */
    private static void fault3IsAheadOf4() {
        new Told().label(0).set(0, 1, 0).faultIs("SET of a LABEL, y not SET", 3, 1);
        new Told().label(0).set(0, 0, 0).faultIs("SET of a LABEL, y itself", 3, 1);
        new Told().set(1, -1, 0).label(0).set(0, 1, 0).faultIs("SET of a LABEL, y SET", 4, 2);
    }

    /** "With a FAULT, expanding ends." */
    private static void expandingEnds() {
        Told t = new Told().data(0).set(0, 1, 0).label(1).label(1).in(2).call(2, 0).in(0).call(2, 0);
        t.faultIs("3 first", 3, 1).put(1, Told.SET, 0, -1, 0).faultIs("4 first", 4, 3);
        t.put(3, Told.LABEL, 2, -1, 0).faultIs("1 first", 1, 4);
        t.put(0, Told.CALL, 2, -1, 0).put(3, Told.LABEL, 1, -1, 0).faultIs("1 ahead of 4", 1, 0);
        t.put(0, Told.DATA, 0, 7, 0).cut(4).cut(3).faultIs("only 5", 5, 0);
    }

    /** Promise 7: "the LINE of MAIN (the CALL, if it came by one) at which the FAULT came; NONE without one" */
    private static void faultInARow() {
        Told t = new Told().in(2).data(0).set(0, 1, 0).in(1).data(0).times(9).call(2, 0);
        t.in(0).noFault("of ROWS that are not called").data(0).call(1, 0).faultIs("in a ROW of a ROW", 3, 1);
        t.in(2).put(1, Told.LABEL, 4, -1, 0).noFault("of a LABEL in a ROW").in(0).label(4).faultIs("behind the CALL", 4, 2);
        t.put(0, Told.LABEL, 4, -1, 0).faultIs("by the CALL", 4, 1);
        t.cut(1).faultIs("without the CALL", 4, 1).cut(1).noFault("without both");
        t.in(1).put(0, Told.DATA, 4, -1, 0).noFault("5 not yet").in(0).put(0, Told.END, -1, -1, 0).call(1, 0);
        t.in(2).put(1, Told.DATA, 5, -1, 0).faultIs("5 in a ROW", 5, 1);
    }

    /** "if there is no FAULT, one more POOL is an ITEM (beyond the 120, too), of DEPTH 0 and N 0, of no LINE" */
    private static void poolBehindAll() {
        Told t = new Told().in(1).load(40).relative().pool().in(0).call(1, 5);
        t.itemsAre("KIND", 0, Told.LOAD, Told.POOL, Told.POOL).itemsAre("LINE", 3, 0, 0, Told.NONE);
        t.itemsAre("DEPTH", 4, 1, 1, 0).itemsAre("N", 5, 45, 0, 0).itemsAre("SIZE", 2, 1, 1, 0);
        t.in(1).cut(1).itemsAre("SIZE of the POOL behind all", 2, 1, 1).wordsAre("of the POOL behind all", 5000, 45);
        Told full = with120Items().in(1).put(9, Told.LOAD, -1, -1, 7).in(0).data(0);
        full.faultIs("of 121 ITEMS", 2, 12).cut(12).faultIs("a LOAD far ahead of the POOL behind 120", 6, 0);
        full.in(1).put(9, Told.POOL, -1, -1, 0).in(0).in(1).put(8, Told.LOAD, -1, -1, 7).noFault("POOLS in ROWS");
        full.in(1).put(9, Told.LOAD, -1, -1, 7).put(8, Told.POOL, -1, -1, 0);
        full.noFault("one LOAD at the end").itemIs("of the POOL behind 120", 120, 2, 1);
        Check.same("word of the POOL behind 120", full.press.word(full.press.many(3) - 1), 7);
    }
}
