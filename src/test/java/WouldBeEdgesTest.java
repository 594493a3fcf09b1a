/** Promises 15 to 20: each sentence that names an edge of what would be, of the DISTANCES, and of the checksum. */
public final class WouldBeEdgesTest {
    public static void main(String[] args) {
        withoutEachLine();
        withoutIsRefused();
        withoutAndEachFault();
        withoutTheFault();
        withEachN();
        withIsRefused();
        withAndEachFault();
        withKeepsTheRest();
        distances();
        distanceIsRefused();
        wronglyOfNone();
        wronglyOfOne();
        wronglyEachAlone();
        wronglyAddressesAnew();
        wronglyAtTheEdges();
        longByPlaces();
        longByFewer();
        longByLeftOut();
        longByIsRefused();
        longByAndEachFault();
        longByBeyond40Lines();
        longByBeyond120Items();
        longByBeyond400Lines();
        digests();
        nothingIsChanged();
        Check.finish("WouldBeEdgesTest");
    }

    private static void without(Told t, int row, int line, int due) {
        Check.same("wordsWithout(" + row + ", " + line + ")", t.press.wordsWithout(row, line), due);
    }

    private static void with(Told t, int row, int line, int n, int due) {
        Check.same("wordsWith(" + row + ", " + line + ", " + n + ")", t.press.wordsWith(row, line, n), due);
    }

    private static void longBy(String when, Told t, int line, int many, int due) {
        Check.same("longBy(" + line + ", " + many + ") " + when, t.press.longBy(line, many), due);
    }

    /** Promise 15: "Returns how many words there would be without that": of MAIN, of a ROW, of one that is not called */
    private static void withoutEachLine() {
        Told t = new Told().in(1).data(1).times(2).in(2).data(1).times(3).in(0).call(1, 0).times(2).align(8).load(3).jump(-1, 40);
        t.manyIs("words", 3, 12);
        int[] main = {12, 12, 8, 10, 10};
        for (int line = 0; line < main.length; line++) {
            without(t, 0, line, main[line]);
        }
        for (int line = 0; line < 3; line++) {
            without(t, 2, line, 12);
        }
        without(t, 1, 0, 12);
        without(t, 1, 1, 12);
        without(new Told().data(1), 0, 0, 0);
        without(new Told().data(1).times(40), 0, 39, 39);
        without(new Told().in(4).data(1).times(10).in(0).call(4, 0).times(3), 4, 9, 27);
        t.cut(2);
        int[] noAlign = {6, 6, 6, 6};
        for (int line = 0; line < noAlign.length; line++) {
            without(t, 0, line, noAlign[line]);
        }
    }

    /** wordsWithout: "IndexOutOfBoundsException if there is no such ROW, or LINE", with a FAULT, too */
    private static void withoutIsRefused() {
        for (int x = -1; x <= 0; x++) {
            Told t = new Told().data(0).data(x, -1, 0).in(3).end();
            int[][] none = {{0, -1}, {0, 2}, {0, Told.MIN}, {0, Told.MAX}, {1, 0}, {3, 1}, {3, -1}, {4, 0}, {5, 0}, {-1, 0},
                {Told.MAX, 0}, {Told.MIN, 0}};
            for (int[] at : none) {
                String call = "(" + at[0] + ", " + at[1] + ")";
                t.refuses("wordsWithout" + call, Told.INDEX, p -> p.wordsWithout(at[0], at[1]));
                t.refuses("wordsWith" + call, Told.INDEX, p -> p.wordsWith(at[0], at[1], 0));
                t.refuses("wordsWith" + call + " of n 100", Told.INDEX, p -> p.wordsWith(at[0], at[1], 100));
            }
        }
    }

    /** "-10 - FAULT, if there was one then": every FAULT there is */
    private static void withoutAndEachFault() {
        without(new Told().in(1).when(0).relative().call(1, 0).in(0).call(1, 0), 1, 0, -11);
        without(new Told().in(1).data(0).times(10).in(0).call(1, 0).times(12).when(0).data(0), 0, 12, -12);
        without(new Told().in(1).end().times(9).in(2).call(1, 0).times(10).in(0).call(2, 0).times(4).cut(0).when(0).call(2, 0), 0, 3, -12);
        without(new Told().set(0, -1, 1).when(0, -1, 0), 0, 0, -13);
        without(new Told().set(0, -1, 1).set(0, 0, 1), 0, 0, -13);
        without(new Told().label(0).when(0).label(0).end(), 0, 1, -14);
        without(new Told().label(0).data(0, -1, 0), 0, 0, -15);
        without(new Told().load(0).data(0).times(15).pool().data(0), 0, 16, -16);
        without(new Told().load(0).data(0).times(15).pool().end(), 0, 16, 17);
    }

    /** With a FAULT now it is answered, too: the words, if there was none then, or what would be at fault then. */
    private static void withoutTheFault() {
        Told t = new Told().load(0).data(5, -1, 0).data(0).times(17);
        t.faultIs("of 5", 5, 1);
        without(t, 0, 1, -16);
        without(t, 0, 0, -15);
        without(t, 0, 18, -15);
        t.set(5, -1, 0).label(5).faultIs("of 4", 4, 20);
        without(t, 0, 20, -15);
        without(t, 0, 19, -16);
        without(new Told().data(0).data(0, -1, 0), 0, 1, 1);
        without(new Told().in(2).call(2, 0).in(0).data(0).call(2, 0), 0, 1, 1);
        without(new Told().in(2).call(2, 0).in(0).data(0).call(2, 0), 2, 0, 1);
        without(new Told().in(1).data(0).times(10).in(0).call(1, 0).times(12).data(0), 0, 12, 120);
        without(new Told().in(1).data(0).times(10).in(0).call(1, 0).times(13), 1, 9, 117);
        without(new Told().in(1).data(0).times(10).in(0).call(1, 0).times(14), 1, 9, -12);
        without(new Told().in(1).data(0).times(10).in(0).call(1, 0).times(14), 0, 0, -12);
    }

    /** Promise 16: "Returns how many words there would be, if its n was that" */
    private static void withEachN() {
        Told t = new Told().in(1).when(0).relative().data(0).relative().load(2).relative().call(1, -1).relative()
                .in(0).call(1, 1).align(2).jump(-1, 5).branchIf(-1, 5).load(1);
        t.manyIs("words", 3, 7);
        with(t, 0, 0, 1, 7);
        with(t, 0, 0, 0, 4);
        with(t, 0, 0, -99, 4);
        with(t, 0, 0, 2, 10);
        with(t, 0, 1, 8, 13);
        with(t, 0, 1, 4, 9);
        with(t, 0, 2, 10, 7);
        with(t, 0, 2, 11, 8);
        with(t, 0, 2, -5, 7);
        with(t, 0, 2, -6, 8);
        with(t, 0, 3, -99, 9);
        with(t, 0, 3, 99, 9);
        with(t, 0, 4, 3, 6);
        with(t, 1, 0, 1, 10);
        with(t, 1, 0, -1, 4);
        with(t, 1, 2, 0, 6);
        with(t, 1, 1, 99, 7);
        with(t, 1, 3, 0, -11);
        with(t, 1, 3, -2, 7);
    }

    /** wordsWith: "IllegalArgumentException if that LINE cannot have that n", with a FAULT, too */
    private static void withIsRefused() {
        for (int x = -1; x <= 0; x++) {
            Told t = new Told().label(8).set(0, -1, 0).cut(1).data(x, -1, 0).align(4).pool().end().call(1, 0).when(1).load(0).relative();
            int[][] none = {{0, 1}, {0, -1}, {1, 100}, {1, -100}, {2, 0}, {2, 1}, {2, 3}, {2, -2}, {2, 6}, {2, 16}, {3, 1}, {3, -1},
                {4, 1}, {4, -99}, {5, 100}, {5, -100}, {6, 100}, {6, -100}, {7, 100}, {7, -100}, {7, Told.MIN}, {7, Told.MAX}};
            for (int[] at : none) {
                t.refuses("wordsWith(0, " + at[0] + ", " + at[1] + ")", Told.ARGUMENT, p -> p.wordsWith(0, at[0], at[1]));
            }
            int words = x == -1 ? 5 : -15;
            with(t, 0, 0, 0, x == -1 ? 6 : -15);
            with(t, 0, 2, 2, x == -1 ? 4 : -15);
            with(t, 0, 6, 0, x == -1 ? 4 : words);
            with(t, 0, 7, -99, x == -1 ? 6 : words);
        }
    }

    /** "-10 - FAULT, if there was one then": every FAULT there is */
    private static void withAndEachFault() {
        with(new Told().in(1).when(0).call(1, 0).in(0).call(1, 0), 1, 0, 1, -11);
        with(new Told().in(1).data(0).times(10).in(0).call(1, 0).times(12).when(0).data(0), 0, 12, 1, -12);
        with(new Told().when(0).when(0, -1, 0), 0, 0, 1, -13);
        with(new Told().label(0).when(0).label(0), 0, 1, 99, -14);
        with(new Told().when(1).label(0).end().data(0, -1, 0), 0, 0, -1, -15);
        with(new Told().load(0).data(0).times(11).align(4).align(2).load(4), 0, 12, 8, -16);
        with(new Told().load(0).when(0).data(0).times(16), 0, 1, 2, -16);
        with(new Told().load(0).branchIf(-1, 9).data(0).times(14), 0, 1, 10, -16);
        with(new Told().load(0).when(1).data(0).times(16), 0, 1, 0, 2);
        with(new Told().in(1).when(0).relative().call(1, -1).relative().in(0).call(1, 5), 0, 0, 4, 0);
        with(new Told().in(1).when(0).relative().call(1, -1).relative().in(0).call(1, 4), 0, 0, 5, -11);
    }

    /** It keeps its KIND, x, y, and whether it is RELATIVE, and its place. */
    private static void withKeepsTheRest() {
        Told t = new Told().in(1).when(0).relative().data(0).in(0).set(3, -1, 9).when(3, 3, 1).call(1, 1).end().call(1, 2);
        with(t, 1, 0, 0, 2);
        with(t, 1, 0, -1, 1);
        with(t, 1, 0, -2, 0);
        with(t, 0, 1, 0, 1);
        with(t, 0, 0, -99, 2);
        with(t, 0, 2, 0, 1);
        with(t, 0, 4, -5, 1);
        t.press.put(0, 1, Told.WHEN, 3, -1, -8, false);
        with(t, 0, 0, 8, 1);
        with(t, 0, 0, 9, 2);
    }

    /** Promise 17: "Returns its DISTANCE, as it is laid out (from its address and 1, also if it is LONG)." */
    private static void distances() {
        Told t = new Told().label(0).jump(0, 0).branchIf(0, 0).jump(1, 99).branchIf(1, 0).jump(-1, 99).branchIf(-1, -99).label(1);
        int[] due = {-1, -2, 106, 5, 93, -107};
        int[] size = {1, 1, 2, 1, 2, 3};
        for (int item = 1; item <= 6; item++) {
            Check.same("distance(" + item + ")", t.press.distance(item), due[item - 1]);
            t.itemIs("of DISTANCES", item, 2, size[item - 1]);
        }
        Told called = new Told().in(1).jump(-1, 99).relative().in(0).call(1, 99).call(1, -99).call(1, 0);
        Check.same("distance by ARG", called.press.distance(0), 197);
        Check.same("distance by ARG below 0", called.press.distance(1), -3);
        Check.same("distance by ARG 0", called.press.distance(2), 95);
    }

    /** distance: "if there is ... no such ITEM that is" a JUMP or IF */
    private static void distanceIsRefused() {
        Told t = new Told().label(0).set(1, -1, 0).data(0).load(0).pool().align(2).jump(0, 0).branchIf(0, 0).when(1).end().call(1, 0);
        int[] none = {Told.MIN, -1, 0, 1, 2, 3, 4, 5, 8, 9, 10, 121, Told.MAX};
        for (int item : none) {
            t.refuses("distance(" + item + ")", Told.INDEX, p -> p.distance(item));
        }
        Check.same("distance of the JUMP", t.press.distance(6), -5);
        Check.same("distance of the IF", t.press.distance(7), -6);
    }

    /** JUMP 99, JUMP to the LABEL behind 2 DATA and an ALIGN: it is 8 away at first, and 7 behind the ROUNDS. */
    private static Told oneWrongly() {
        return new Told().jump(-1, 99).data(0).times(2).jump(0, 0).align(8).data(0).times(4).label(0);
    }

    private static void wrongly(String when, Told t, int due) {
        Check.same("wrongly " + when, t.press.wrongly(), due);
    }

    /** Promise 18: "(0 with a FAULT)", and without any that is LONG */
    private static void wronglyOfNone() {
        wrongly("of a new press", new Told(), 0);
        wrongly("of SHORT ones", new Told().jump(-1, 8).branchIf(-1, 9), 0);
        wrongly("of LONG ones", new Told().jump(-1, 99).branchIf(-1, -99), 0);
        wrongly("with a FAULT", oneWrongly().data(7, -1, 0), 0);
        wrongly("with a FAULT 6", oneWrongly().load(0).data(0).times(20), 0);
    }

    /** "would have a DISTANCE of -8 to 7, if that one alone was SHORT ... and all addresses anew" */
    private static void wronglyOfOne() {
        Told t = oneWrongly();
        wrongly("of one", t, 1);
        t.itemIs("LONG still", 3, 6, 1).itemIs("LONG still", 3, 2, 2).itemIs("the ALIGN", 4, 2, 2).itemIs("behind it", 5, 1, 8);
        Check.same("value still", t.press.value(0), 12);
        wrongly("of one again", t, 1);
        t.put(3, Told.IF, 0, -1, 0);
        wrongly("of an IF", t, 1);
        t.put(9, Told.DATA, -1, -1, 0).label(0);
        wrongly("of an IF that is 8 away", t, 0);
    }

    /** "the others SHORT or LONG as they are": two that would be near only if both were SHORT are not counted. */
    private static void wronglyEachAlone() {
        wrongly("of two", oneWrongly().align(8).jump(-1, 99).data(0).times(2).jump(1, 0).align(8).data(0).times(4).label(1), 2);
        // with both SHORT the ALIGN would be at 8, of no words; with one alone at 9, of 7
        Told both = new Told().branchIf(-1, 99).jump(0, 0).times(2).data(0).times(3).align(8).data(0).times(3).label(0);
        both.itemsAre("LONG", 6, 1, 1, 1, 0, 0, 0, 0, 0, 0, 0, 0, 0).itemIs("the ALIGN", 6, 1, 10).itemIs("the ALIGN", 6, 2, 6);
        wrongly("of two that need one another", both, 0);
    }

    /** "and all addresses anew": its DISTANCE as it is laid out is not the one that it would have. */
    private static void wronglyAddressesAnew() {
        // LONG, the ALIGN is at 9, of 7 words; if the JUMP was SHORT, at 8, of none
        Told t = new Told().jump(-1, 99).jump(0, 0).data(0).times(5).align(8).data(0).times(2).label(0);
        Check.same("DISTANCE as it is laid out", t.press.distance(1), 15);
        wrongly("of 15 that would be 7", t, 1);
        Told first = new Told().jump(0, -20).jump(-1, 99).times(5).label(0);
        Check.same("DISTANCE of ITEM 0 as it is laid out", first.press.distance(0), -9);
        wrongly("of ITEM 0, -9 that would be -10", first, 0);
        wrongly("of ITEM 0, -8", new Told().jump(0, -20).jump(-1, 99).times(6).label(0), 1);
        Told back = new Told().jump(0, -21).jump(-1, 99).times(6).label(0);
        Check.same("DISTANCE of ITEM 0 as it is laid out", back.press.distance(0), -8);
        wrongly("of ITEM 0, -8 that would be -9", back, 0);
        wrongly("of an IF as ITEM 0", new Told().branchIf(0, -20).jump(-1, 99).times(6).label(0), 1);
    }

    /** -8 and 7 are counted, -9 and 8 are not. */
    private static void wronglyAtTheEdges() {
        for (int n = 9; n <= 15; n++) {
            // n - 4 away in ROUND 1, at 3; then n - 5, at 4
            Told t = new Told().jump(-1, 99).data(0).times(2).jump(-1, n);
            t.itemIs("to " + n, 3, 6, n >= 12 ? 1 : 0);
            wrongly("to " + n, t, n == 12 ? 1 : 0);
        }
        for (int data = 0; data <= 3; data++) {
            // the ALIGN is of 7 words in ROUND 1, then of 6, or of 5 behind a LONG IF
            Told t = new Told().jump(-1, 99).label(0).align(8).data(0).times(data + 1).cut(3).jump(0, 0);
            t.itemIs("back over " + data, 3 + data, 6, data >= 1 ? 1 : 0);
            wrongly("back over " + data, t, data == 1 ? 1 : 0);
            t.put(0, Told.IF, -1, -1, 99);
            wrongly("back, behind an IF, over " + data, t, data == 1 || data == 2 ? 1 : 0);
        }
    }

    /** Promise 19: ahead of each LINE, and "at the end, with the number behind the last one" */
    private static void longByPlaces() {
        // the JUMP at 0 is 3 away, the IF at 5 is 6 back
        Told t = new Told().jump(0, 0).data(0).times(3).label(0).data(0).branchIf(-1, 0);
        t.noFault("of SHORT ones").manyIs("of SHORT ones", 5, 0);
        for (int line = 0; line <= 6; line++) {
            longBy("none yet", t, line, 2, 0);
            longBy("one more", t, line, 3, 1);
        }
        longBy("still one", t, 1, 4, 1);
        longBy("both", t, 1, 5, 2);
        longBy("both, ahead of the LABEL", t, 4, 20, 2);
        longBy("one, behind the LABEL", t, 5, 20, 1);
        longBy("at the end", t, 7, 1, 0);
        longBy("at the end", t, 7, 20, 0);
        Told none = new Told();
        longBy("of a new press", none, 0, 1, 0);
        longBy("of a new press", none, 0, 20, 0);
    }

    /** "(below 0: fewer)" */
    private static void longByFewer() {
        Told t = new Told().jump(-1, 9).branchIf(-1, 15).data(0);
        t.manyIs("of LONG ones", 5, 2);
        longBy("one fewer", t, 0, 1, -1);
        longBy("one fewer", t, 0, 3, -1);
        longBy("one fewer", t, 0, 5, -1);
        longBy("both fewer", t, 0, 6, -2);
        longBy("both fewer", t, 0, 16, -2);
        longBy("the IF alone fewer", t, 0, 17, -1);
        longBy("none fewer, between", t, 1, 5, 0);
        longBy("one fewer, between", t, 1, 6, -1);
        longBy("at the end", t, 3, 20, 0);
    }

    /** DATA that are left out change nothing; DATA ahead of a WHEN are not left out. */
    private static void longByLeftOut() {
        Told t = new Told().jump(0, 0).when(0).data(0).end().data(0).label(0);
        longBy("ahead of the WHEN", t, 1, 7, 1);
        longBy("left out", t, 2, 20, 0);
        longBy("left out, ahead of the END", t, 3, 20, 0);
        longBy("behind the END", t, 4, 7, 1);
        longBy("behind the END", t, 4, 6, 0);
    }

    /** "IndexOutOfBoundsException if there is no such LINE, nor that number", then "if many is not 1 to 20" */
    private static void longByIsRefused() {
        for (int x = -1; x <= 0; x++) {
            Told t = new Told().in(1).end().times(5).in(0).data(0).data(x, -1, 0);
            int[] noLines = {Told.MIN, -1, 3, 4, 40, 41, Told.MAX};
            int[] noMany = {Told.MIN, -1, 0, 21, 22, Told.MAX};
            for (int line : noLines) {
                t.refuses("longBy(" + line + ", 1)", Told.INDEX, p -> p.longBy(line, 1));
                t.refuses("longBy(" + line + ", 0)", Told.INDEX, p -> p.longBy(line, 0));
                t.refuses("longBy(" + line + ", 21)", Told.INDEX, p -> p.longBy(line, 21));
            }
            for (int many : noMany) {
                t.refuses("longBy(0, " + many + ")", Told.ARGUMENT, p -> p.longBy(0, many));
                t.refuses("longBy(2, " + many + ")", Told.ARGUMENT, p -> p.longBy(2, many));
            }
            longBy("the least", t, 2, 1, 0);
            longBy("the most", t, 2, 20, 0);
        }
    }

    /** "0, if there is a FAULT now; otherwise -1000 - FAULT, if there was one then": only 2 and 6 can come by DATA */
    private static void longByAndEachFault() {
        Told t = new Told().load(0).data(0).times(10);
        longBy("6 not yet", t, 1, 5, 0);
        longBy("6", t, 1, 6, -1006);
        longBy("6 not ahead of the LOAD", t, 0, 20, 0);
        longBy("6 at the end", t, 11, 6, -1006);
        longBy("not 6 at the end", t, 11, 5, 0);
        t.data(0).times(6).faultIs("of 17 above", 6, 0);
        longBy("with FAULT 6 now", t, 1, 1, 0);
        longBy("with FAULT 6 now", t, 0, 20, 0);
        Told names = new Told().when(0, -1, 0);
        longBy("with FAULT 3 now", names, 0, 20, 0);
        longBy("with FAULT 5 now", new Told().jump(0, 0), 1, 20, 0);
        longBy("with FAULT 4 now", new Told().label(0).label(0), 1, 20, 0);
        longBy("with FAULT 1 now", new Told().in(1).call(1, 0).in(0).call(1, 0), 0, 20, 0);
        longBy("with FAULT 2 now", new Told().in(1).data(0).times(10).in(0).call(1, 0).times(13), 0, 20, 0);
    }

    /** "also if MAIN had more than 40 LINES by it" */
    private static void longByBeyond40Lines() {
        Told t = new Told().jump(0, 0).data(0).times(3).label(0).end().times(35);
        t.manyIs("of a full MAIN", 0, 40);
        longBy("of a full MAIN", t, 1, 4, 0);
        longBy("of a full MAIN", t, 1, 5, 1);
        longBy("of a full MAIN", t, 1, 20, 1);
        longBy("of a full MAIN, at the last", t, 39, 20, 0);
        longBy("of a full MAIN, at the end", t, 40, 20, 0);
        t.refuses("longBy(41, 1)", Told.INDEX, p -> p.longBy(41, 1));
        // the last LINE is still there: a JUMP of it is moved out of reach
        t.put(39, Told.JUMP, 0, -1, 0);
        longBy("of the last LINE of a full MAIN", t, 5, 7, 0);
        longBy("of the last LINE of a full MAIN", t, 5, 8, 1);
        longBy("of the last LINE of a full MAIN", t, 39, 20, 1);
        longBy("of the last LINE and the first one", t, 1, 20, 1);
        t.cut(38);
        longBy("of 39 LINES", t, 38, 20, 1);
        longBy("of 39 LINES, at the end", t, 39, 20, 0);
        without(t, 0, 38, 4);
        t.manyIs("of 39 LINES", 0, 39);
    }

    /** But 120 ITEMS are still the most. */
    private static void longByBeyond120Items() {
        Told t = new Told().in(1).data(0).times(10).in(0).call(1, 0).times(11);
        longBy("up to 120 ITEMS", t, 0, 10, 0);
        longBy("up to 121 ITEMS", t, 0, 11, -1002);
        longBy("up to 120 ITEMS at the end", t, 11, 10, 0);
        longBy("up to 121 ITEMS at the end", t, 11, 11, -1002);
        longBy("up to 130 ITEMS", t, 5, 20, -1002);
        t.call(1, 0).noFault("of 120 ITEMS");
        longBy("of one ITEM more", t, 12, 1, -1002);
        t.when(0);
        longBy("of ITEMS left out", t, 13, 20, 0);
    }

    /** And 400 LINES. */
    private static void longByBeyond400Lines() {
        Told t = new Told().in(1).end().times(10).in(2).call(1, 0).times(10).in(0).call(2, 0).times(3).call(1, 0).times(5);
        t.noFault("of 388 LINES");
        longBy("up to 400 LINES", t, 0, 12, 0);
        longBy("up to 401 LINES", t, 0, 13, -1002);
        longBy("up to 400 LINES at the end", t, 8, 12, 0);
        longBy("up to 401 LINES at the end", t, 8, 13, -1002);
        t.end().times(12).noFault("of 400 LINES");
        longBy("of one LINE more", t, 0, 1, -1002);
        t.put(8, Told.WHEN, -1, -1, 0).put(10, Told.WHEN, -1, -1, 0).put(11, Told.WHEN, -1, -1, 0);
        // 11 and its own END are left out
        longBy("of LINES left out", t, 9, 20, 0);
        longBy("of LINES left out, between two", t, 12, 20, 0);
        longBy("of two LINES that are not", t, 8, 2, 0);
        longBy("of three LINES that are not", t, 8, 3, -1002);
    }

    private static long sum(long d, long v) {
        return d * 31 + v;
    }

    /** Promise 20, by the answers of the other methods in the document's order. */
    private static long digestOf(Told t) {
        long d = 7619;
        for (int what = 0; what <= 11; what++) {
            d = sum(d, t.press.many(what));
        }
        d = sum(d, t.press.fault());
        d = sum(d, t.press.faultAt());
        for (int line = 0; line < t.countOf(0); line++) {
            d = sum(d, t.press.wordsWithout(0, line));
        }
        if (t.press.fault() != 0) {
            return d;
        }
        for (int item = 0; item < t.press.many(2); item++) {
            for (int what = 0; what <= 7; what++) {
                d = sum(d, t.press.ofItem(item, what));
            }
        }
        for (int address = 0; address < t.press.many(3); address++) {
            d = sum(d, t.press.word(address));
        }
        for (int name = 0; name <= 7; name++) {
            d = sum(d, t.press.value(name));
        }
        return sum(d, t.press.wrongly());
    }

    private static void digestIs(String when, Told t) {
        Check.same("digest " + when, t.press.digest(), digestOf(t));
    }

    /** "without a FAULT" all of it, with one the first part alone */
    private static void digests() {
        digestIs("of a new press", new Told());
        digestIs("of one word", new Told().data(-99));
        digestIs("of one that is wrongly LONG", oneWrongly());
        digestIs("with ROWS", new Told().in(1).load(0).relative().pool().set(4, -1, 3).in(0).call(1, 5).call(1, 6).label(3));
        digestIs("of 40 LINES", new Told().data(3).times(40));
        digestIs("of 120 ITEMS", new Told().in(1).branchIf(-1, 0).times(10).in(0).call(1, 0).times(12));
        digestIs("with FAULT 1", new Told().in(1).call(1, 0).in(0).data(0).call(1, 0));
        digestIs("with FAULT 2", new Told().in(1).data(0).times(10).in(0).call(1, 0).times(13));
        digestIs("with FAULT 3", new Told().data(0).set(0, 0, 0));
        digestIs("with FAULT 4", new Told().label(0).data(0).label(0));
        digestIs("with FAULT 5", new Told().data(0).jump(11, 0));
        digestIs("with FAULT 6", new Told().load(0).data(0).times(20));
        Check.same("digest by hand, with FAULT 5", new Told().data(0, -1, 0).press.digest(), byHand());
    }

    /** One LINE in MAIN and in all, ten times NONE, FAULT 5 at 0, and no words without that LINE. */
    private static long byHand() {
        int[] all = {1, 1, -1, -1, -1, -1, -1, -1, -1, -1, -1, -1, 5, 0, 0};
        long d = 7619;
        for (int v : all) {
            d = d * 31 + v;
        }
        return d;
    }

    /** "what would be (nothing is changed)" */
    private static void nothingIsChanged() {
        Told t = new Told().in(2).load(1).relative().pool().in(0).jump(0, 0).call(2, 4).data(0).times(6).label(0).align(8).when(1).data(2);
        String before = t.state();
        for (int line = 0; line < t.countOf(0); line++) {
            t.press.wordsWithout(0, line);
            t.press.longBy(line, 20);
            t.press.longBy(line + 1, 1);
        }
        t.press.wordsWithout(2, 0);
        t.press.wordsWith(2, 0, 50);
        t.press.wordsWith(0, 9, 2);
        t.press.wordsWith(0, 0, 99);
        t.press.wrongly();
        t.press.distance(0);
        t.press.digest();
        Check.same("all as before", t.state().equals(before) ? 1 : 0, 1);
        Check.same("an object of its own", new BranchPress().many(1), 0);
    }
}
