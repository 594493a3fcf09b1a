/** Section 3: each sentence that names an edge of the layout. */
public final class LayoutEdgesTest {
    public static void main(String[] args) {
        sizes();
        sizeOfPools();
        sizeOfAligns();
        addressesOfNoSize();
        labelsAheadAndBehind();
        lastSetAhead();
        fault5OfEachReference();
        fault5OfSets();
        fault5OfLocals();
        noFault5();
        shortFromMinus8To7();
        distanceIsFromTheAddressAnd1();
        longForGood();
        allByTheSameAddresses();
        roundsTillNone();
        manyRounds();
        loadFindsItsPool();
        fault6Beyond16();
        sixteenWordsOfALoad();
        fault6BehindTheRounds();
        whichFault();
        Check.finish("LayoutEdgesTest");
    }

    /** "LABEL and SET 0; DATA and LOAD 1; JUMP 1, if it is SHORT, 2, if LONG; IF 1 or 3" */
    private static void sizes() {
        new Told().label(0).set(1, -1, 9).data(0).load(0).jump(0, 0).jump(-1, 99).branchIf(0, 0).branchIf(-1, 99)
                .itemsAre("SIZE", 2, 0, 0, 1, 1, 1, 2, 1, 3, 1)
                .itemsAre("address", 1, 0, 0, 0, 1, 2, 3, 5, 6, 9)
                .itemsAre("LONG", 6, 0, 0, 0, 0, 0, 1, 0, 1, 0)
                .manyIs("of SIZES", 3, 10);
    }

    /** "POOL: how many different N the LOADS have between it and the POOL ahead of it" */
    private static void sizeOfPools() {
        Told t = new Told().pool().load(1).load(1).load(-1).pool().pool().load(1).pool().data(3).load(4).load(1).load(4);
        t.itemsAre("SIZE", 2, 0, 1, 1, 1, 2, 0, 1, 1, 1, 1, 1, 1, 2);
        t.wordsAre("of POOLS", 5002, 5001, 5001, 1, -1, 5000, 1, 3, 5002, 5002, 5000, 4, 1);
        Told args = new Told().in(1).load(0).relative().load(5).in(0).call(1, 5).call(1, -5).call(1, 5);
        args.wordsAre("of RELATIVE LOADS", 5005, 5004, 5004, 5002, 5001, 5000, 5, -5);
    }

    /** "ALIGN: as many as are needed till the address is a multiple of n": none, if it is one. */
    private static void sizeOfAligns() {
        for (int n = 2; n <= 8; n *= 2) {
            for (int ahead = 0; ahead <= 17; ahead++) {
                Told t = new Told().label(0).in(1).data(0).in(0).end();
                for (int i = 0; i < ahead; i++) {
                    t.call(1, 0);
                }
                t.align(n).label(1);
                int due = 0;
                while ((ahead + due) % n != 0) {
                    due++;
                }
                t.itemIs("of ALIGN " + n + " at " + ahead, ahead + 1, 2, due);
                Check.same("behind ALIGN " + n + " at " + ahead, t.press.value(1), ahead + due);
                t.manyIs("of ALIGN " + n + " at " + ahead, 9, due);
            }
        }
        new Told().data(1).align(8).align(8).align(4).data(2).align(2).wordsAre("of ALIGNS", 1, 0, 0, 0, 0, 0, 0, 0, 2, 0);
    }

    /** "Each ITEM has the address behind the one ahead of it." */
    private static void addressesOfNoSize() {
        Told t = new Told().label(0).label(1).set(2, -1, 7).pool().align(8).data(0).label(3).label(8).data(3, 0, 0).label(4);
        t.itemsAre("address", 1, 0, 0, 0, 0, 0, 0, 1, 1, 1, 2, 2);
        int[] due = {0, 0, 7, 1, 2, Told.NONE, Told.NONE, Told.NONE};
        for (int name = 0; name < 8; name++) {
            Check.same("value(" + name + ")", t.press.value(name), due[name]);
        }
        t.wordsAre("of no SIZE ahead", 0, 1);
    }

    /** "of a NAME with a LABEL the address of that", ahead of the ITEM or behind it */
    private static void labelsAheadAndBehind() {
        for (int name = 0; name < 8; name++) {
            Told t = new Told().data(name, -1, 0).data(-1, name, 0).label(name).data(name, -1, 0).data(-1, name, 0);
            t.wordsAre("of LABEL " + name, 2, -2, 2, -2);
            Told own = new Told().data(0).label(name).jump(name, 1).label((name + 1) % 8).branchIf(name, 1);
            own.wordsAre("of a LABEL at the address", 0, 3008, 4007);
        }
        Told called = new Told().in(1).label(0).in(0).data(0, -1, 0).data(0, -1, 0).call(1, 0);
        called.wordsAre("of a LABEL in a ROW", 2, 2).put(1, Told.LABEL, 1, -1, 0).wordsAre("of it, less far", 1);
    }

    /** "of a NAME that is SET, what the last SET ahead of the ITEM says" */
    private static void lastSetAhead() {
        for (int name = 0; name < 8; name++) {
            Told t = new Told().set(name, -1, 3).data(name, -1, 0).set(name, -1, 4).set(name, name, 1).data(name, name, 1);
            t.data(name, -1, 0).set(name, -1, 9);
            t.wordsAre("of SETS of " + name, 3, 1, 5);
            Check.same("value(" + name + ")", t.press.value(name), 9);
            Told called = new Told().in(1).set(name, -1, 0).relative().in(0).call(1, 5).data(name, -1, 0).call(1, 6);
            called.data(name, -1, 0).wordsAre("of SETS in a ROW", 5, 6);
        }
        new Told().set(0, -1, 3).jump(0, 0).set(0, -1, 9).branchIf(0, 0).wordsAre("of branches", 3010, 4015);
    }

    /** "FAULT 5, if there is none (of DATA, JUMP and IF)": by each x and y of each of them. */
    private static void fault5OfEachReference() {
        for (int asked = 0; asked <= 11; asked++) {
            new Told().data(0).data(asked, -1, 0).faultIs("DATA of x " + asked, 5, 1);
            new Told().data(0).data(-1, asked, 0).faultIs("DATA of y " + asked, 5, 1);
            new Told().data(0).data(asked, asked, 0).faultIs("DATA of x and y " + asked, 5, 1);
            new Told().data(0).jump(asked, 0).faultIs("JUMP of " + asked, 5, 1);
            new Told().data(0).branchIf(asked, 0).faultIs("IF of " + asked, 5, 1);
            new Told().data(asked, -1, 0).cut(0).noFault("cut");
            new Told().when(0).jump(asked, 0).noFault("left out");
        }
        new Told().label(0).data(0, 1, 0).faultIs("y alone", 5, 1);
        new Told().label(0).data(1, 0, 0).faultIs("x alone", 5, 1);
    }

    /** A SET behind the ITEM alone gives no VALUE. */
    private static void fault5OfSets() {
        for (int name = 0; name < 8; name++) {
            new Told().data(name, -1, 0).set(name, -1, 0).faultIs("DATA ahead of the SET", 5, 0);
            new Told().jump(name, 0).set(name, -1, 0).jump(name, 0).faultIs("JUMP ahead of the SET", 5, 0);
            new Told().set(name, -1, 0).data(name, -1, 0).noFault("DATA right behind the SET");
            new Told().set(name, -1, 0).data(7 - name, -1, 0).faultIs("DATA behind another SET", 5, 1);
        }
        new Told().in(1).set(0, -1, 4).in(0).data(0, -1, 0).call(1, 0).faultIs("DATA ahead of the SET in a ROW", 5, 0);
    }

    /** A LOCAL that is on the wrong side, or the other one, gives no VALUE. */
    private static void fault5OfLocals() {
        for (int local = 8; local <= 9; local++) {
            int behind = local + 2;
            int other = 17 - local;
            new Told().data(local, -1, 0).label(local).faultIs("LOCAL only behind", 5, 0);
            new Told().label(local).data(behind, -1, 0).faultIs("LOCAL only ahead", 5, 1);
            new Told().data(behind, -1, 0).label(local).noFault("LOCAL behind");
            new Told().label(local).data(local, -1, 0).noFault("LOCAL ahead");
            new Told().label(other).data(local, -1, 0).faultIs("the other LOCAL ahead", 5, 1);
            new Told().data(behind, -1, 0).label(other).faultIs("the other LOCAL behind", 5, 0);
        }
        Told called = new Told().in(1).jump(10, 0).label(9).in(0).call(1, 0).label(8).branchIf(9, 0);
        called.wordsAre("LOCALS of one ROW, asked for in another", 3008, 4007);
    }

    /** LABELS and SETS of a NAME need no VALUE of it; LOAD, POOL and ALIGN ask for none. */
    private static void noFault5() {
        for (int name = 0; name < 8; name++) {
            new Told().label(name).noFault("LABEL");
            new Told().set(name, -1, 0).noFault("SET");
        }
        new Told().label(8).label(9).load(0).pool().align(2).data(0).jump(-1, 0).branchIf(-1, 0).noFault("without NAMES");
    }

    /** "if its DISTANCE is not -8 to 7": of each address, and of JUMP and IF. */
    private static void shortFromMinus8To7() {
        for (int ahead = 0; ahead <= 12; ahead += 3) {
            for (int far = -12; far <= 12; far++) {
                Told t = new Told().data(0).times(ahead + 1).cut(0).jump(-1, ahead + 1 + far);
                boolean isShort = far >= -8 && far <= 7;
                String when = "of DISTANCE " + far + " at " + ahead;
                t.itemIs("JUMP " + when, ahead, 6, isShort ? 0 : 1).itemIs("JUMP " + when, ahead, 2, isShort ? 1 : 2);
                Check.same("JUMP " + when, t.press.word(ahead), isShort ? 3008 + far : 3100);
                t.manyIs("JUMP " + when, 5, isShort ? 0 : 1).manyIs("JUMP " + when, 6, isShort ? 1 : 2);
                t.put(ahead, Told.IF, -1, -1, ahead + 1 + far);
                t.itemIs("IF " + when, ahead, 6, isShort ? 0 : 1).itemIs("IF " + when, ahead, 2, isShort ? 1 : 3);
                Check.same("IF " + when, t.press.word(ahead), isShort ? 4008 + far : 4100);
                t.manyIs("IF " + when, 5, isShort ? 0 : 1).manyIs("IF " + when, 6, isShort ? 1 : 2);
                Check.same("distance " + when, t.press.distance(ahead), far);
            }
        }
    }

    /** "its VALUE, less its address and 1", by LABELS */
    private static void distanceIsFromTheAddressAnd1() {
        new Told().label(0).data(0).times(7).jump(0, 0).wordsAre("8 back", 0, 0, 0, 0, 0, 0, 0, 3000);
        new Told().label(0).data(0).times(8).jump(0, 0).wordsAre("9 back", 0, 0, 0, 0, 0, 0, 0, 0, 3100, 0);
        new Told().branchIf(0, 0).data(0).times(7).label(0).wordsAre("7 ahead", 4015, 0, 0, 0, 0, 0, 0, 0);
        new Told().branchIf(0, 0).data(0).times(8).label(0).wordsAre("8 ahead", 4100, 3100, 11, 0, 0, 0, 0, 0, 0, 0, 0);
        new Told().jump(10, 0).data(0).times(8).label(8).wordsAre("8 ahead of a LOCAL", 3100, 10, 0, 0, 0, 0, 0, 0, 0, 0);
        new Told().jump(10, -1).data(0).times(8).label(8).wordsAre("8 ahead less 1", 3015, 0, 0, 0, 0, 0, 0, 0, 0);
    }

    /** "is LONG, for good": an ALIGN brings the target nearer, and it stays LONG. */
    private static void longForGood() {
        // ROUND 1: JUMP 0, JUMP 1, 6 DATA, ALIGN at 8 of no words, 1 DATA, LABEL at 9
        Told t = new Told().jump(-1, 99).jump(0, 0).data(0).times(5).align(8).data(0).label(0);
        t.itemsAre("LONG", 6, 1, 0, 0, 0, 0, 0, 0, 0, 0, 0, 0);
        t.itemIs("of the ALIGN", 7, 2, 0);
        Told good = new Told().jump(-1, 99).data(0).times(2).jump(0, 0).align(8).data(0).times(4).label(0);
        good.manyIs("of what could be nearer", 5, 2).manyIs("of what could be nearer", 6, 2);
        good.itemIs("LONG for good", 3, 6, 1).itemIs("LONG for good", 3, 2, 2).itemIs("of the ALIGN", 4, 2, 2);
        Check.same("DISTANCE of what is LONG for good", good.press.distance(3), 7);
        Check.same("wrongly LONG", good.press.wrongly(), 1);
        good.put(3, Told.IF, 0, -1, 0).itemIs("LONG for good", 3, 6, 1).itemIs("LONG for good", 3, 2, 3);
        Check.same("DISTANCE of the IF", good.press.distance(3), 7);
    }

    /** "all have their addresses; then each SHORT one is LONG": what is LONG in this ROUND moves nothing in it. */
    private static void allByTheSameAddresses() {
        Told t = new Told().branchIf(-1, 40).branchIf(-1, 9).branchIf(-1, 11);
        // in ROUND 1 at 1 and 2, 7 and 8 away; in ROUND 2 at 3, 5 away
        t.itemsAre("LONG", 6, 1, 0, 1, 0).manyIs("of one ROUND", 6, 2);
        Check.same("DISTANCE of the one that moved", t.press.distance(1), 5);
        Check.same("DISTANCE of the LONG one that moved", t.press.distance(2), 6);
        Told back = new Told().jump(-1, -20).jump(-1, -6).branchIf(-1, -4);
        back.itemsAre("LONG back", 6, 1, 1, 1, 0).manyIs("of three ROUNDS and the last", 6, 4);
    }

    /** "There are ROUNDS till one makes none LONG."; promise 13: "ROUNDS (with the last one)" */
    private static void roundsTillNone() {
        new Told().manyIs("of no JUMPS", 6, 1);
        new Told().jump(-1, 8).manyIs("of a SHORT one", 6, 1);
        new Told().jump(-1, 9).manyIs("of a LONG one", 6, 2);
        new Told().jump(-1, 9).branchIf(-1, 50).manyIs("of two LONG ones", 6, 2);
        new Told().jump(-1, 50).jump(-1, -6).manyIs("of two, one by the other", 6, 3);
        new Told().jump(-1, 50).jump(-1, -6).data(0, -1, 0).manyIs("with a FAULT", 6, Told.NONE);
    }

    /**
     * Each of 22 IFS is 7 ahead of its LABEL, and has the next one between: if something in reach of the last one is
     * LONG, each ROUND makes the one LONG that is ahead of those that are.
     */
    private static void manyRounds() {
        Told t = new Told().in(1).label(8).branchIf(10, 0).data(0).times(3).label(9).branchIf(11, 0).data(0).times(3);
        t.in(0).call(1, 0).times(10).label(8).branchIf(10, 0).data(0).times(3).label(9).branchIf(11, 0);
        t.data(0).times(3).label(8).data(0).times(4).label(9);
        t.manyIs("of no LONG one", 4, 22).manyIs("of no LONG one", 5, 0).manyIs("of no LONG one", 6, 1);
        t.put(24, Told.IF, -1, -1, 0);
        t.manyIs("of a chain", 4, 23).manyIs("of a chain", 5, 23).manyIs("of a chain", 6, 24);
        t.put(24, Told.IF, 9, -1, 0);
        t.manyIs("of an IF 8 back", 4, 23).manyIs("of an IF 8 back", 5, 0).manyIs("of an IF 8 back", 6, 1);
        // at 82, in reach of the IFS at 76 and 80
        t.put(13, Told.JUMP, -1, -1, 0);
        t.manyIs("of a chain from 82", 4, 24).manyIs("of a chain from 82", 5, 22).manyIs("of a chain from 82", 6, 22);
    }

    /** "A LOAD finds its N in the first POOL behind it, at the place at which this N comes among the different ones there" */
    private static void loadFindsItsPool() {
        Told t = new Told().load(5).load(3).load(5).load(-7).load(3).pool().load(3).pool().load(3);
        t.wordsAre("of LOADS", 5004, 5004, 5002, 5003, 5001, 5, 3, -7, 5000, 3, 5000, 3);
        t.put(5, Told.END, -1, -1, 0).wordsAre("with a POOL less", 5005, 5005, 5003, 5004, 5002, 5001, 5, 3, -7, 5000, 3);
        t.cut(0).wordsAre("in the order in which they come", 5004, 5004, 5004, 5001, 5000, 3, 5, -7, 5000, 3);
    }

    /** "FAULT 6, if the address of that is more than 16 above that of the LOAD." */
    private static void fault6Beyond16() {
        Told t = new Told().data(9).load(1).data(0).times(15);
        t.noFault("of 16 above").wordsAre("of 16 above", 9, 5015, 0, 0, 0, 0, 0, 0, 0, 0, 0, 0, 0, 0, 0, 0, 0, 1);
        t.data(0).faultIs("of 17 above", 6, 1).times(20).faultIs("of far above", 6, 1);
        t.put(17, Told.POOL, -1, -1, 0).noFault("of a POOL at 16").put(17, Told.DATA, -1, -1, 0);
        t.put(18, Told.POOL, -1, -1, 0).faultIs("of a POOL at 17", 6, 1);
        t.put(0, Told.LOAD, -1, -1, 1).faultIs("the first LOAD", 6, 0);
        Told places = new Told().load(1).load(2).data(0).times(14);
        places.noFault("of both, 16 above").wordsAre("of both, 16 above", 5015, 5015, 0, 0, 0, 0, 0, 0, 0, 0, 0, 0, 0, 0, 0, 0, 1, 2);
        places.put(0, Told.LOAD, -1, -1, 2).noFault("of one N").data(0).faultIs("of 17 above once more", 6, 0);
        places.put(0, Told.DATA, -1, -1, 2).noFault("of the second LOAD alone");
    }

    /** Sixteen words of a LOAD: 16 different N are near enough, 17 are not. */
    private static void sixteenWordsOfALoad() {
        Told t = new Told();
        for (int n = 1; n <= 16; n++) {
            t.load(n);
            t.noFault("of " + n + " LOADS").manyIs("of LOADS", 8, n);
        }
        for (int address = 0; address < 16; address++) {
            Check.same("word(" + address + ") of 16 LOADS", t.press.word(address), 5015);
            Check.same("word behind 16 LOADS", t.press.word(16 + address), address + 1);
        }
        t.load(17).faultIs("of 17 LOADS", 6, 0).put(16, Told.LOAD, -1, -1, 1).faultIs("of 17 LOADS, 16 N", 6, 0);
        t.put(0, Told.POOL, -1, -1, 0).noFault("of 16 LOADS behind a POOL").put(0, Told.LOAD, -1, -1, 1);
        t.put(16, Told.POOL, -1, -1, 0).noFault("of 16 LOADS and a POOL").load(17).noFault("of a LOAD behind it");
        t.put(8, Told.DATA, -1, -1, 0).noFault("of 15 LOADS and a DATA").put(8, Told.ALIGN, -1, -1, 4).noFault("an ALIGN");
        t.put(8, Told.END, -1, -1, 0).put(9, Told.ALIGN, -1, -1, 4).noFault("an ALIGN of no SIZE");
    }

    /** The addresses are those behind the last ROUND. */
    private static void fault6BehindTheRounds() {
        Told t = new Told().load(1).branchIf(-1, 9).data(0).times(14);
        t.noFault("of a SHORT IF between").put(1, Told.IF, -1, -1, 10).faultIs("of a LONG IF between", 6, 0);
        t.cut(15).faultIs("17 above", 6, 0).cut(14).noFault("16 above").manyIs("16 above", 5, 1);
    }

    /** "The FAULT is that in expanding; without that, FAULT 5 of the first ITEM that has it; without that, FAULT 6 of the first one." */
    private static void whichFault() {
        Told t = new Told().load(1).load(1).data(0).times(20).data(4, -1, 0).data(5, -1, 0).label(0).label(0);
        t.faultIs("of all three", 4, 25).cut(25).faultIs("of 5 and 6", 5, 22);
        t.put(22, Told.DATA, -1, -1, 0).faultIs("of 5 and 6 again", 5, 23);
        t.put(23, Told.JUMP, 0, -1, 0).faultIs("of 6", 6, 0).put(0, Told.POOL, -1, -1, 0).faultIs("of the other 6", 6, 1);
        t.put(1, Told.POOL, -1, -1, 0).noFault("of none");
        t.in(1).data(9, -1, 0).in(0).call(1, 0).data(9, -1, 0).faultIs("of 5 in a ROW first", 5, 25);
        Told second = new Told().load(1).pool().load(2).data(0).times(17).faultIs("of the second LOAD alone", 6, 2);
        second.in(2).load(3).in(0).put(1, Told.CALL, 2, -1, 0).faultIs("of the first of three", 6, 0);
        second.put(0, Told.END, -1, -1, 0).faultIs("of the first of two, in a ROW", 6, 1);
    }
}
