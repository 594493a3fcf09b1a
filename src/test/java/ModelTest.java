import java.util.ArrayList;
import java.util.List;
import java.util.Random;

/** Long runs of calls, each answer beside that of the Model; the seeds are fixed, so that each run is the same again. */
public final class ModelTest {
    private static final int OBJECTS = 700;
    private static final int CHANGES = 70;
    private static final int[] FAULTS = new int[7];
    private static int wronglyLong = 0;
    private static int notNothing = 0;

    public static void main(String[] args) {
        for (int seed = 0; seed < OBJECTS; seed++) {
            run(new Random(seed), seed % 7 == 0 ? 0 : 1 + seed % 3);
        }
        for (int fault = 0; fault < FAULTS.length; fault++) {
            Check.same("FAULT " + fault + " came in a run", FAULTS[fault] > 0 ? 1 : 0, 1);
        }
        System.out.println("states by FAULT: " + java.util.Arrays.toString(FAULTS));
        Check.same("some were wrongly LONG", wronglyLong > 0 ? 1 : 0, 1);
        Check.same("some would be LONG", notNothing > 0 ? 1 : 0, 1);
        Check.finish("ModelTest");
    }

    private static void run(Random random, int manner) {
        BranchPress press = new BranchPress();
        List<List<int[]>> rows = new ArrayList<>();
        for (int row = 0; row < 5; row++) {
            rows.add(new ArrayList<>());
        }
        begin(manner, press, rows);
        for (int change = 0; change < CHANGES; change++) {
            change(random, manner, press, rows);
            compare(random, press, new Model(rows));
        }
    }

    private static void change(Random random, int manner, BranchPress press, List<List<int[]>> rows) {
        int row = random.nextInt(3) > 0 ? 0 : 1 + random.nextInt(4);
        List<int[]> lines = rows.get(row);
        int act = random.nextInt(8);
        if (act == 0 && !lines.isEmpty()) {
            int at = random.nextInt(lines.size());
            lines.remove(at);
            Check.same("cut", press.cut(row, at), lines.size());
            return;
        }
        int[] l = line(random, manner, row);
        if (act == 1 && !lines.isEmpty()) {
            int at = random.nextInt(lines.size());
            Check.same("put", press.put(row, at, l[0], l[1], l[2], l[3], l[4] == 1), lines.set(at, l)[0]);
        } else if (lines.size() < (row == 0 ? 40 : 10)) {
            Check.same("add", press.add(row, l[0], l[1], l[2], l[3], l[4] == 1), lines.size());
            lines.add(l);
        }
    }

    /** Manner 0 has all alike; the others begin with NAMES and LOCALS, and spare what makes FAULTS. */
    private static void begin(int manner, BranchPress press, List<List<int[]>> rows) {
        int names = manner == 0 ? 0 : manner == 1 ? 10 : 2;
        for (int i = 0; i < names; i++) {
            int x = manner == 1 ? i : 8 + i;
            int[] l = x >= 4 && x < 8 ? new int[] {1, x, -1, x * 3 - 14, 0} : new int[] {0, x, -1, 0, 0};
            rows.get(0).add(l);
            press.add(0, l[0], l[1], l[2], l[3], false);
        }
    }

    private static int[] line(Random random, int manner, int row) {
        int[][] often = {
            {0, 1, 2, 3, 4, 5, 6, 7, 8, 9, 10},
            {1, 2, 2, 2, 3, 3, 4, 4, 5, 6, 7, 8, 9, 10},
            {0, 1, 2, 2, 3, 4, 5, 6, 6, 7, 8, 9, 10, 10, 10, 10},
            {0, 2, 2, 2, 3, 3, 4, 4, 5, 6, 7, 7, 8, 9, 10}};
        int kind = often[manner][random.nextInt(often[manner].length)];
        // ROWS of these manners call the ones behind them, so that there are long ones without FAULT 1
        boolean isDown = manner > 1;
        if (isDown && kind == 10 && row == 4) {
            kind = 2;
        }
        int n = random.nextInt(manner == 3 ? 61 : 31) - (manner == 3 ? 20 : 8);
        int x = reference(random, manner);
        int y = random.nextInt(3) == 0 ? reference(random, manner) : -1;
        int set = manner == 0 ? random.nextInt(9) - 1 : manner == 1 ? 4 + random.nextInt(4) : -1;
        int relative = random.nextInt(2);
        switch (kind) {
            case 0: return new int[] {0, isDown ? 8 + random.nextInt(2) : random.nextInt(10), -1, 0, 0};
            case 1: return new int[] {1, manner == 1 ? 4 + random.nextInt(4) : random.nextInt(8), set, n, relative};
            case 2: return new int[] {2, x, y, n, relative};
            case 3: case 4: return new int[] {kind, x, -1, n, relative};
            case 5: return new int[] {5, -1, -1, n / 4, relative};
            case 7: return new int[] {7, -1, -1, 2 << random.nextInt(3), 0};
            case 8: return new int[] {8, set, random.nextInt(4) == 0 ? set : -1, n, relative};
            case 10:
                int called = isDown ? Math.min(row + 1 + random.nextInt(2), 4) : 1 + random.nextInt(4);
                return new int[] {10, called, -1, random.nextInt(9) - 4, relative};
            default: return new int[] {kind, -1, -1, 0, 0};
        }
    }

    private static int reference(Random random, int manner) {
        int of = random.nextInt(40);
        if (manner == 0 || of == 0) {
            return random.nextInt(13) - 1;
        }
        if (of < 10) {
            return -1;
        }
        return manner == 1 ? random.nextInt(10) : 8 + random.nextInt(of < 14 ? 4 : 2);
    }

    private static void compare(Random random, BranchPress press, Model model) {
        FAULTS[model.fault]++;
        Check.same("fault", press.fault(), model.fault);
        Check.same("faultAt", press.faultAt(), model.faultAt);
        for (int what = 0; what < 12; what++) {
            Check.same("many(" + what + ")", press.many(what), model.count(what));
        }
        double mean = model.fault != 0 ? 0 : (double) model.words.size() / model.things.size();
        Check.same("meanSize", press.meanSize(), mean);
        Check.same("wrongly", press.wrongly(), model.wronglyLong());
        wronglyLong += model.wronglyLong();
        compareItems(press, model);
        compareWords(press, model);
        compareOthers(random, press, model);
        if (random.nextInt(8) == 0) {
            Check.same("digest", press.digest(), digest(model));
        }
    }

    private static void compareItems(BranchPress press, Model model) {
        for (int i = 0; i < model.things.size(); i++) {
            int item = i;
            for (int what = 0; what < 8; what++) {
                Check.same("ofItem", press.ofItem(item, what), model.ofThing(item, what));
            }
            Model.Thing thing = model.things.get(i);
            if (thing.kind == 3 || thing.kind == 4) {
                Check.same("distance", press.distance(item), model.distance(thing));
            } else {
                Check.raises("distance", IndexOutOfBoundsException.class, () -> press.distance(item));
            }
        }
        Check.raises("ofItem", IndexOutOfBoundsException.class, () -> press.ofItem(model.things.size(), 0));
    }

    private static void compareWords(BranchPress press, Model model) {
        for (int address = 0; address < model.words.size(); address++) {
            int owner = model.owners.get(address);
            Check.same("word", press.word(address), model.words.get(address));
            Check.same("itemOf", press.itemOf(address), owner);
            Check.same("isCode", press.isCode(address) ? 1 : 0, model.ofThing(owner, 7));
        }
        Check.raises("word", IndexOutOfBoundsException.class, () -> press.word(model.words.size()));
        for (int name = 0; name < 8 && model.fault == 0; name++) {
            Check.same("value", press.value(name), model.nameAtEnd(name));
        }
    }

    private static void compareOthers(Random random, BranchPress press, Model model) {
        for (int times = 0; times < 4; times++) {
            int row = times < 2 ? 0 : random.nextInt(5);
            int size = model.rows.get(row).size();
            if (size == 0) {
                continue;
            }
            int line = random.nextInt(size);
            int[] l = model.rows.get(row).get(line);
            boolean isFixed = l[0] == 0 || l[0] == 6 || l[0] == 9;
            int n = isFixed ? 0 : l[0] == 7 ? 2 << random.nextInt(3) : random.nextInt(199) - 99;
            Check.same("wordsWithout", press.wordsWithout(row, line), model.without(row, line));
            Check.same("wordsWith", press.wordsWith(row, line, n), model.withN(row, line, n));
        }
        int line = random.nextInt(model.rows.get(0).size() + 1);
        int times = 1 + random.nextInt(20);
        int due = model.longByData(line, times);
        notNothing += due > 0 ? 1 : 0;
        Check.same("longBy", press.longBy(line, times), due);
    }

    private static long digest(Model model) {
        List<Integer> all = new ArrayList<>();
        for (int what = 0; what < 12; what++) {
            all.add(model.count(what));
        }
        all.add(model.fault);
        all.add(model.faultAt);
        for (int line = 0; line < model.rows.get(0).size(); line++) {
            all.add(model.without(0, line));
        }
        if (model.fault == 0) {
            for (int i = 0; i < model.things.size() * 8; i++) {
                all.add(model.ofThing(i / 8, i % 8));
            }
            all.addAll(model.words);
            for (int name = 0; name < 8; name++) {
                all.add(model.nameAtEnd(name));
            }
            all.add(model.wronglyLong());
        }
        long d = 7619;
        for (int v : all) {
            d = d * 31 + v;
        }
        return d;
    }
}
