/** Section 4 and promises 8 to 14: each sentence that names an edge of the words, of what is followed, and of the answers. */
public final class WordEdgesTest {
    public static void main(String[] args) {
        wordsOfData();
        wordsOfShortOnes();
        wordsOfLongOnes();
        wordsOfLoads();
        wordsOfPoolsAndAligns();
        followedFromItem0();
        followedOverNoSize();
        notFollowed();
        jumpIsNotFollowedBehind();
        branchToAnAddress();
        branchToNoItem();
        branchToNoWord();
        branchToTheFirstItem();
        ifIsBoth();
        rings();
        code();
        whatOfItemRefuses();
        itemsOfAllParts();
        addressesOfWords();
        itemOfAWord();
        valuesOfNames();
        manyOfEach();
        whatManyRefuses();
        codeAndOtherWords();
        meanSizes();
        eachFault();
        Check.finish("WordEdgesTest");
    }

    /** "DATA: its VALUE." */
    private static void wordsOfData() {
        new Told().data(-99).data(99).data(-1).data(0).label(0).data(0, -1, -4).data(-1, 0, 99).data(0, 0, -1)
                .wordsAre("of DATA", -99, 99, -1, 0, 0, 95, -1);
    }

    /** "JUMP: SHORT 3008 and its DISTANCE"; "IF: SHORT 4008 and its DISTANCE" */
    private static void wordsOfShortOnes() {
        for (int far = -8; far <= 7; far++) {
            new Told().jump(-1, far + 1).wordsAre("of a SHORT JUMP, " + far, 3008 + far);
            new Told().data(5).branchIf(-1, far + 2).wordsAre("of a SHORT IF, " + far, 5, 4008 + far);
        }
    }

    /** "LONG 3100, then its VALUE"; "LONG 4100, 3100, then its VALUE" */
    private static void wordsOfLongOnes() {
        int[] values = {-99, -8, 9, 99};
        for (int value : values) {
            new Told().jump(-1, value).data(5).wordsAre("of a LONG JUMP", 3100, value, 5);
            new Told().branchIf(-1, value).data(5).wordsAre("of a LONG IF", 4100, 3100, value, 5);
        }
        new Told().jump(1, 0).branchIf(1, 1).data(0).times(8).label(1)
                .wordsAre("by the addresses of the last ROUND", 3100, 13, 4100, 3100, 14, 0, 0, 0, 0, 0, 0, 0, 0);
        new Told().in(1).jump(-1, 50).relative().in(0).call(1, 99).call(1, -99).wordsAre("RELATIVE", 3100, 149, 3100, -49);
    }

    /** "LOAD: 5000 and how many words lie between it and its N." */
    private static void wordsOfLoads() {
        for (int between = 0; between <= 15; between++) {
            Told t = new Told().load(77);
            for (int i = 0; i < between; i++) {
                t.data(0);
            }
            Check.same("word of a LOAD", t.press.word(0), 5000 + between);
            Check.same("word of its N", t.press.word(between + 1), 77);
            t.noFault("of " + between + " between");
        }
    }

    /** "POOL: its different N. ALIGN: 0 each." */
    private static void wordsOfPoolsAndAligns() {
        new Told().align(8).data(1).align(8).load(-5).load(99).load(-5).pool().align(4).pool().data(2)
                .wordsAre("of POOLS and ALIGNS", 1, 0, 0, 0, 0, 0, 0, 0, 5002, 5002, 5000, -5, 99, 0, 0, 0, 2);
    }

    private static void followedAre(String when, Told t, String due) {
        StringBuilder got = new StringBuilder();
        for (int item = 0; item < t.press.many(2); item++) {
            got.append(t.press.ofItem(item, 7));
        }
        Check.same("followed " + when + ": " + got + ", due is " + due, got.toString().equals(due) ? 1 : 0, 1);
    }

    /** "FOLLOWED are ITEMS, from the ITEM 0 on: LABEL, SET, LOAD ..., and then the ITEM behind" */
    private static void followedFromItem0() {
        followedAre("of a new press", new Told(), "1");
        followedAre("LABEL, SET and LOAD", new Told().label(0).set(1, -1, 0).label(8).load(1).load(2), "111110");
        followedAre("from a DATA", new Told().data(0).label(0).set(1, -1, 0).load(1), "00000");
        followedAre("from an ALIGN at 0", new Told().align(8).load(1).data(0), "1100");
        followedAre("from a POOL at 0", new Told().pool().load(1).data(0), "1100");
        followedAre("from a CALL", new Told().in(1).label(8).load(1).in(0).end().call(1, 0).call(1, 0), "11110");
        followedAre("with lines that are no ITEMS", new Told().when(0).data(0).end().when(1).load(0).call(1, 0).end().load(0), "110");
    }

    /** "POOL and ALIGN of SIZE 0, and then the ITEM behind" */
    private static void followedOverNoSize() {
        followedAre("over POOLS of no SIZE", new Told().pool().pool().label(0).pool(), "11111");
        followedAre("over ALIGNS of no SIZE", new Told().load(1).load(2).align(2).load(1).load(2).align(4).label(0), "11111110");
        followedAre("to the POOL behind all", new Told().label(0), "11");
        followedAre("to the POOL behind all, of a SIZE", new Told().load(0), "10");
    }

    /** "DATA, and POOL and ALIGN of other SIZES are not." */
    private static void notFollowed() {
        followedAre("up to DATA", new Told().label(0).data(0).label(1), "1000");
        followedAre("up to a POOL of a SIZE", new Told().load(0).pool().label(1), "1000");
        followedAre("up to an ALIGN of a SIZE", new Told().load(0).align(2).label(1).pool(), "10000");
        followedAre("JUMP to LABELS ahead of DATA", new Told().jump(0, 0).label(1).label(0).data(0).label(2), "111000");
        followedAre("JUMP to DATA itself", new Told().jump(-1, 2).data(0).data(0).label(2), "10000");
        followedAre("JUMP to a POOL of a SIZE", new Told().jump(-1, 2).load(0).pool().label(2), "10000");
        followedAre("JUMP to an ALIGN of a SIZE", new Told().jump(-1, 1).align(8).label(2).load(1), "10000");
        followedAre("JUMP behind it", new Told().jump(-1, 8).align(8).load(1), "1010");
    }

    /** "JUMP, and then the first ITEM whose address is its VALUE", and not the ITEM behind */
    private static void jumpIsNotFollowedBehind() {
        followedAre("over a LOAD", new Told().jump(-1, 2).load(1).load(1), "1010");
        followedAre("to the ITEM behind", new Told().jump(-1, 1).load(1), "110");
        followedAre("LONG, over a LOAD", new Told().jump(-1, 14).load(0).times(12).load(5), "100000000000010");
    }

    /** The VALUE is an address, not a NAME's number and not a DISTANCE. */
    private static void branchToAnAddress() {
        Told t = new Told().set(0, -1, 3).load(0).jump(0, 1).load(0).load(0).load(0).data(0);
        t.wordsAre("of a JUMP to 4", 5005, 3010, 5003, 5002, 5001, 0, 0);
        followedAre("of a JUMP to 4", t, "11100100");
        followedAre("back", new Told().jump(-1, 3).load(0).data(0).jump(-1, 1), "11010");
        Told name = new Told().jump(3, -1).data(0).load(1).label(3).data(0);
        followedAre("to a LABEL less 1", name, "101100");
    }

    /** "(none, if there is none ...)": the address lies inside of an ITEM. */
    private static void branchToNoItem() {
        followedAre("into a LONG JUMP", new Told().jump(-1, 3).data(0).jump(-1, 99).load(0), "10000");
        followedAre("to a LONG JUMP", new Told().jump(-1, 2).data(0).jump(-1, 99).load(0), "10100");
        followedAre("into a LONG IF, 1", new Told().jump(-1, 3).data(0).branchIf(-1, 99).load(0), "10000");
        followedAre("into a LONG IF, 2", new Told().jump(-1, 4).data(0).branchIf(-1, 99).load(0), "10000");
        followedAre("behind a LONG IF", new Told().jump(-1, 5).data(0).branchIf(-1, 99).load(0), "10010");
        followedAre("into an ALIGN", new Told().jump(-1, 3).data(0).align(8).load(0), "10000");
        followedAre("into a POOL", new Told().jump(-1, 4).load(0).load(1).pool().load(0), "100000");
    }

    /** "(none, if ... no word has that address)", also if ITEMS without words have it */
    private static void branchToNoWord() {
        followedAre("to -1", new Told().jump(-1, -1).load(0), "100");
        followedAre("to -99", new Told().jump(-1, -99).load(0), "100");
        followedAre("to 99", new Told().jump(-1, 99).load(0), "100");
        followedAre("to the last word", new Told().jump(-1, 1).load(0).pool(), "1100");
        followedAre("to ITEMS behind the last word", new Told().jump(-1, 2).data(0).label(0).set(1, -1, 0).pool(), "100000");
        followedAre("to a LABEL behind the last word", new Told().jump(0, 0).label(0), "100");
        followedAre("to a LABEL with a word behind", new Told().jump(0, 0).label(0).data(0), "1100");
        followedAre("to a LABEL ahead of a POOL", new Told().jump(0, 0).load(0).label(0), "1010");
        followedAre("to the POOL behind all", new Told().jump(-1, 2).load(0), "100");
        followedAre("IF to a LABEL behind the last word", new Told().branchIf(1, 0).label(0).data(0).label(1), "11000");
        followedAre("IF, and its ITEM behind, of no word", new Told().branchIf(0, 0).label(0), "111");
    }

    /** "the first ITEM whose address is its VALUE": what has no SIZE ahead of it, too */
    private static void branchToTheFirstItem() {
        followedAre("the first of two LABELS", new Told().jump(1, 0).data(0).label(0).label(1).load(0), "101110");
        followedAre("an ALIGN of no SIZE", new Told().jump(1, 0).data(0).align(2).label(1).load(0), "101110");
        followedAre("a POOL of no SIZE", new Told().jump(1, 0).data(0).pool().label(1).load(0), "101110");
        followedAre("a SET", new Told().jump(1, 0).data(0).set(4, -1, 0).label(1).load(0), "101110");
        followedAre("ITEM 0", new Told().label(0).data(0).jump(-1, 0), "1000");
        followedAre("a LABEL ahead of itself", new Told().label(0).label(1).jump(1, 0).load(0), "11100");
        Told t = new Told().jump(-1, 2).data(0).jump(-1, 0).label(2).load(0);
        followedAre("not the ITEM behind", t, "101000");
        followedAre("not the one of no SIZE behind", new Told().jump(-1, 1).label(0).jump(-1, 9).label(1), "11100");
    }

    /** "IF, and then both" */
    private static void ifIsBoth() {
        followedAre("both", new Told().branchIf(-1, 3).load(0).data(0).load(0), "11010");
        followedAre("none of both", new Told().branchIf(-1, 2).data(0).data(0).load(0), "10000");
        followedAre("the ITEM behind alone", new Told().branchIf(-1, 99).load(0).data(0), "1100");
        followedAre("the target alone", new Told().branchIf(-1, 2).data(0).load(0), "1010");
        followedAre("both of IFS", new Told().branchIf(-1, 3).branchIf(-1, 5).data(0).branchIf(-1, 6).data(0).load(0).load(0), "11010110");
    }

    /** Rings end. */
    private static void rings() {
        followedAre("to itself", new Told().jump(-1, 0).load(0), "100");
        followedAre("IF to itself", new Told().branchIf(-1, 0).load(0), "110");
        followedAre("one another", new Told().jump(-1, 2).data(0).jump(-1, 0).load(0), "10100");
        StringBuilder all = new StringBuilder();
        Told t = new Told().in(1).branchIf(-1, 0).times(10).in(0).call(1, 0).times(12);
        for (int i = 0; i < 121; i++) {
            all.append('1');
        }
        followedAre("120 IFS to 0", t, all.toString());
        t.put(0, Told.CALL, 4, -1, 0).in(4).data(0).in(0);
        followedAre("120 IFS behind a DATA", t, all.substring(9).replace('1', '0'));
    }

    /** "CODE are the words of ITEMS that are FOLLOWED.": all words of a LONG one, too */
    private static void code() {
        Told t = new Told().label(0).branchIf(-1, 20).load(0).jump(-1, 99).branchIf(-1, 99).load(1).data(0).align(4);
        boolean[] due = {true, true, true, true, true, true, false, false, false, false, false, false, false, false};
        for (int address = 0; address < due.length; address++) {
            Check.same("isCode(" + address + ")", t.press.isCode(address) ? 1 : 0, due[address] ? 1 : 0);
        }
        t.manyIs("of CODE", 3, 14).manyIs("of CODE", 10, 6).manyIs("of CODE", 11, 4);
    }

    /** ofItem: no ITEM is ahead of no what. */
    private static void whatOfItemRefuses() {
        Told t = new Told().data(5).load(6);
        int[] noItems = {-1, 3, 4, 120, 121, Told.MIN, Told.MAX};
        int[] noWhats = {-1, 8, 9, Told.MIN, Told.MAX};
        for (int item : noItems) {
            t.refuses("ofItem(" + item + ", 0)", Told.INDEX, p -> p.ofItem(item, 0));
            t.refuses("distance(" + item + ")", Told.INDEX, p -> p.distance(item));
            for (int what : noWhats) {
                t.refuses("ofItem(" + item + ", " + what + ")", Told.INDEX, p -> p.ofItem(item, what));
            }
        }
        for (int what : noWhats) {
            t.refuses("ofItem(0, " + what + ")", Told.ARGUMENT, p -> p.ofItem(0, what));
            t.refuses("ofItem(2, " + what + ")", Told.ARGUMENT, p -> p.ofItem(2, what));
        }
        t.itemIs("of the last", 2, 0, Told.POOL);
    }

    /** Promise 8: "0 its KIND, 1 its address, 2 its SIZE, 3 the LINE ..., 4 its DEPTH, 5 its N, 6 ... LONG, 7 ... FOLLOWED" */
    private static void itemsOfAllParts() {
        Told t = new Told().in(4).jump(-1, 90).relative().in(3).call(4, 5).relative().in(0).end().data(0).align(2).call(3, -70);
        int[][] due = {{Told.DATA, 0, 1, 1, 0, 0, 0, 0}, {Told.ALIGN, 1, 1, 2, 0, 2, 0, 0}, {Told.JUMP, 2, 2, 3, 2, 25, 1, 0},
            {Told.POOL, 4, 0, Told.NONE, 0, 0, 0, 0}};
        for (int item = 0; item < due.length; item++) {
            for (int what = 0; what < 8; what++) {
                t.itemIs("of all parts", item, what, due[item][what]);
            }
        }
        t.put(1, Told.LABEL, 8, -1, 0).itemsAre("FOLLOWED", 7, 1, 1, 1, 0).itemsAre("SIZE", 2, 0, 0, 2, 0);
    }

    /** word, itemOf, isCode: "if there is ... no such word", below 0 and behind the last one */
    private static void addressesOfWords() {
        Told none = new Told().label(0).set(1, -1, 0).pool().align(8);
        Told some = new Told().label(0).branchIf(-1, 50).load(4).label(1);
        some.wordsAre("of some", 4100, 3100, 50, 5000, 4);
        int[] noWords = {Told.MIN, -8, -1, 5, 6, 120, 1000, Told.MAX};
        for (int address : noWords) {
            some.refuses("word(" + address + ")", Told.INDEX, p -> p.word(address));
            some.refuses("itemOf(" + address + ")", Told.INDEX, p -> p.itemOf(address));
            some.refuses("isCode(" + address + ")", Told.INDEX, p -> p.isCode(address));
        }
        for (int address = -1; address <= 1; address++) {
            int at = address;
            none.refuses("word(" + at + ") without words", Told.INDEX, p -> p.word(at));
            none.refuses("itemOf(" + at + ") without words", Told.INDEX, p -> p.itemOf(at));
            none.refuses("isCode(" + at + ") without words", Told.INDEX, p -> p.isCode(at));
        }
        none.manyIs("without words", 3, 0).manyIs("without words", 2, 5);
        Told cut = new Told().data(1).times(2).load(0).cut(0).wordsAre("behind a cut", 1, 5000, 0);
        cut.refuses("itemOf(3) behind a cut", Told.INDEX, p -> p.itemOf(3));
        cut.refuses("word(3) behind a cut", Told.INDEX, p -> p.word(3));
        cut.refuses("isCode(3) behind a cut", Told.INDEX, p -> p.isCode(3));
    }

    /** Promise 10: "Returns the ITEM of the word there.", not one of no SIZE at its address */
    private static void itemOfAWord() {
        Told t = new Told().label(0).pool().align(4).branchIf(-1, 50).label(1).set(2, -1, 0).align(8).load(3).pool().load(4).label(4);
        int[] due = {3, 3, 3, 6, 6, 6, 6, 6, 7, 8, 9, 11};
        t.manyIs("of ITEMS", 3, due.length);
        for (int address = 0; address < due.length; address++) {
            Check.same("itemOf(" + address + ")", t.press.itemOf(address), due[address]);
        }
    }

    /** Promise 12: "the address of its LABEL, or what the last SET of all says; NONE without any" */
    private static void valuesOfNames() {
        Told t = new Told().set(0, -1, 5).set(0, -1, -7).data(0).label(7).set(1, -1, 0).when(0).set(1, -1, 4).set(2, -1, 4).label(3);
        t.end().in(1).label(4).set(5, -1, 9).relative().in(0).data(0).call(1, 20);
        int[] due = {-7, 0, Told.NONE, Told.NONE, 2, 29, Told.NONE, 1};
        for (int name = 0; name < 8; name++) {
            Check.same("value(" + name + ")", t.press.value(name), due[name]);
        }
        t.set(5, 5, 1);
        Check.same("value(5), SET last", t.press.value(5), 30);
        t.cut(12).cut(11);
        Check.same("value(5), no more", t.press.value(5), Told.NONE);
        Check.same("value(4), no more", t.press.value(4), Told.NONE);
        int[] noNames = {Told.MIN, -1, 8, 9, 10, 11, Told.MAX};
        for (int name : noNames) {
            t.refuses("value(" + name + ")", Told.INDEX, p -> p.value(name));
        }
    }

    /** Promise 13, each what by itself. */
    private static void manyOfEach() {
        Told t = new Told().in(1).load(1).jump(-1, 0).in(2).end().in(0).call(1, 0).times(2).when(1).label(0).end();
        t.manyIs("LINES of MAIN", 0, 5).manyIs("LINES of all ROWS", 1, 8).manyIs("ITEMS", 2, 6).manyIs("words", 3, 5);
        t.manyIs("JUMPS and IFS", 4, 2).manyIs("LONG", 5, 0).manyIs("ROUNDS", 6, 1).manyIs("LOADS", 7, 2);
        t.manyIs("of POOLS", 8, 1).manyIs("of ALIGNS", 9, 0).manyIs("CODE", 10, 2).manyIs("no CODE", 11, 2);
        t.branchIf(-1, 40).align(8).pool().load(2);
        // 4 words, the IF 4 to 6, the ALIGN 7, the POOL of 1 at 8, the LOAD 9, the POOL of 2 at 10
        t.manyIs("LINES of MAIN", 0, 9).manyIs("LINES of all ROWS", 1, 12).manyIs("ITEMS", 2, 10).manyIs("words", 3, 11);
        t.manyIs("JUMPS and IFS", 4, 3).manyIs("LONG", 5, 1).manyIs("ROUNDS", 6, 2).manyIs("LOADS", 7, 3);
        t.manyIs("of POOLS", 8, 2).manyIs("of ALIGNS", 9, 1).manyIs("CODE", 10, 2).manyIs("no CODE", 11, 6);
    }

    /** many: "IllegalArgumentException if what is not 0 to 11", with a FAULT, too */
    private static void whatManyRefuses() {
        int[] noWhats = {Told.MIN, -1, 12, 13, Told.MAX};
        for (int what : noWhats) {
            new Told().data(0).refuses("many(" + what + ")", Told.ARGUMENT, p -> p.many(what));
            new Told().data(0, -1, 0).refuses("many(" + what + ") with a FAULT", Told.ARGUMENT, p -> p.many(what));
        }
    }

    /** "10 CODE words, 11 words of JUMPS, IFS and LOADS that are no CODE" */
    private static void codeAndOtherWords() {
        new Told().data(0).load(0).times(2).jump(-1, 2).jump(-1, 99).branchIf(-1, 2).branchIf(-1, 99).align(8)
                .manyIs("of none FOLLOWED", 10, 0).manyIs("of none FOLLOWED", 11, 9).manyIs("of none FOLLOWED", 3, 17);
        new Told().load(0).times(2).branchIf(-1, 2).branchIf(-1, 99).jump(-1, 99)
                .manyIs("of all FOLLOWED", 10, 8).manyIs("of all FOLLOWED", 11, 0).manyIs("of all FOLLOWED", 3, 9);
        new Told().data(0).times(3).manyIs("of DATA", 10, 0).manyIs("of DATA", 11, 0);
    }

    /** "Returns the mean SIZE of the ITEMS, not cut; 0 with a FAULT." */
    private static void meanSizes() {
        Check.same("of no words", new Told().label(0).press.meanSize(), 0.0);
        Check.same("of 1 in 2", new Told().data(0).press.meanSize(), 0.5);
        Check.same("of 2 in 3", new Told().data(0).times(2).press.meanSize(), 2 / 3.0);
        Check.same("of 3 in 2", new Told().branchIf(-1, 50).press.meanSize(), 1.5);
        Check.same("of 2 in 2", new Told().load(0).press.meanSize(), 1.0);
        Check.same("of 120 in 121", new Told().in(1).data(0).times(10).in(0).call(1, 0).times(12).press.meanSize(), 120 / 121.0);
        Check.same("with a FAULT", new Told().data(0).data(0, -1, 0).press.meanSize(), 0.0);
    }

    /** A press with that FAULT; every one has a JUMP as ITEM 0. */
    private static Told withFault(int fault) {
        Told t = new Told().jump(-1, 40);
        switch (fault) {
            case 1: return t.in(1).call(1, 0).in(0).call(1, 0);
            case 2: return t.in(1).data(0).times(10).in(0).call(1, 0).times(12);
            case 3: return t.set(0, 1, 0);
            case 4: return t.label(0).label(0);
            case 5: return t.data(0, -1, 0);
            default: return t.load(0).data(0).times(16);
        }
    }

    /** What each method answers "if there is a FAULT", of each FAULT. */
    private static void eachFault() {
        int[] at = {0, 1, 12, 1, 2, 1, 1};
        for (int fault = 1; fault <= 6; fault++) {
            String when = "with FAULT " + fault;
            Told t = withFault(fault).faultIs(when, fault, at[fault]);
            t.refuses("ofItem(0, 0) " + when, Told.INDEX, p -> p.ofItem(0, 0));
            t.refuses("ofItem(0, 8) " + when, Told.INDEX, p -> p.ofItem(0, 8));
            t.refuses("ofItem(-1, -1) " + when, Told.INDEX, p -> p.ofItem(-1, -1));
            t.refuses("word(0) " + when, Told.INDEX, p -> p.word(0));
            t.refuses("itemOf(0) " + when, Told.INDEX, p -> p.itemOf(0));
            t.refuses("isCode(0) " + when, Told.INDEX, p -> p.isCode(0));
            t.refuses("value(0) " + when, Told.INDEX, p -> p.value(0));
            t.refuses("value(8) " + when, Told.INDEX, p -> p.value(8));
            t.refuses("distance(0) " + when, Told.INDEX, p -> p.distance(0));
            for (int what = 2; what < 12; what++) {
                t.manyIs(when, what, Told.NONE);
            }
            t.manyIs(when, 0, t.countOf(0)).manyIs(when, 1, t.countOf(0) + t.countOf(1));
            Check.same("meanSize " + when, t.press.meanSize(), 0.0);
            Check.same("wrongly " + when, t.press.wrongly(), 0);
            Check.same("longBy " + when, t.press.longBy(0, 20), 0);
            Check.same("ofLine " + when, t.press.ofLine(0, 0, 3), 40);
            Check.same("wordsWithout " + when, t.press.wordsWithout(0, 0), fault == 2 ? 120 : -10 - fault);
            Check.same("add " + when, t.press.add(0, Told.END, -1, -1, 0, false), t.countOf(0) - 1);
            Check.same("put " + when, t.press.put(0, 0, Told.POOL, -1, -1, 0, false), Told.JUMP);
            t.faultIs(when + " still", fault, at[fault]);
            while (t.countOf(0) > 1) {
                t.cut(1);
            }
            t.noFault(when + " no more").manyIs(when + " no more", 2, 2);
        }
    }
}
