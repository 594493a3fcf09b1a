import java.util.Random;

/** Calls with any arguments in any state: each ends, with an answer or with an exception that code throws by itself. */
public final class WildTest {
    private static final int OBJECTS = 300;
    private static final int CALLS = 512;

    public static void main(String[] args) {
        for (int seed = 0; seed < OBJECTS; seed++) {
            Random random = new Random(seed);
            BranchPress press = new BranchPress();
            for (int call = 0; call < CALLS; call++) {
                int method = random.nextInt(30);
                String name = "seed " + seed + ", call " + call + ", method " + method;
                try {
                    call(press, random, method);
                } catch (RuntimeException e) {
                    Check.same(name + " threw " + e.getClass().getName(), isOfTheFace(e) ? 1 : 0, 1);
                }
            }
        }
        Check.finish("WildTest");
    }

    /** The machine's own exceptions are of classes below these, or of others. */
    private static boolean isOfTheFace(RuntimeException e) {
        return e.getClass() == IndexOutOfBoundsException.class
                || e.getClass() == IllegalArgumentException.class
                || e.getClass() == IllegalStateException.class;
    }

    private static int any(Random random) {
        int[] far = {Integer.MIN_VALUE, Integer.MAX_VALUE, -100, 1000, -2, 41, 99, -99};
        int of = random.nextInt(40);
        return of < far.length ? far[of] : random.nextInt(13) - 1;
    }

    private static void call(BranchPress press, Random random, int method) {
        int a = any(random);
        int b = any(random);
        switch (method) {
            case 0: press.put(a, b, any(random), any(random), any(random), any(random), random.nextBoolean()); break;
            case 1: press.cut(a, b); break;
            case 2: press.ofLine(a, b, any(random)); break;
            case 3: press.fault(); break;
            case 4: press.faultAt(); break;
            case 5: press.ofItem(a, b); break;
            case 6: press.word(a); break;
            case 7: press.itemOf(a); break;
            case 8: press.isCode(a); break;
            case 9: press.value(a); break;
            case 10: press.many(a); break;
            case 11: press.meanSize(); break;
            case 12: press.wordsWithout(a, b); break;
            case 13: press.wordsWith(a, b, any(random)); break;
            case 14: press.distance(a); break;
            case 15: press.wrongly(); break;
            case 16: press.longBy(a, b); break;
            case 17: press.digest(); break;
            default: addOne(press, random, a, b);
        }
    }

    /** Half of them are LINES that may well be, so that the states are many. */
    private static void addOne(BranchPress press, Random random, int a, int b) {
        int[][] usual = {{0, 0, -1}, {0, 8, -1}, {1, 1, -1}, {2, 8, 0}, {3, 0, -1}, {4, 10, -1}, {5, -1, -1}, {6, -1, -1},
            {7, -1, -1}, {8, -1, -1}, {9, -1, -1}, {10, 1, -1}, {10, 2, -1}, {3, -1, -1}, {4, -1, -1}};
        if (random.nextBoolean()) {
            press.add(a, b, any(random), any(random), any(random), random.nextBoolean());
            return;
        }
        int[] l = usual[random.nextInt(usual.length)];
        int n = l[0] == 7 ? 8 : l[0] == 0 || l[0] == 6 || l[0] == 9 ? 0 : random.nextInt(20);
        press.add(random.nextInt(3), l[0], l[1], l[2], n, false);
    }
}
