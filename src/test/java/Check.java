/** Counts the answers that are not as due, and tells them. */
final class Check {
    private static int wrong = 0;

    private Check() {
    }

    static void same(String call, double got, double due) {
        if (got != due) {
            wrong++;
            System.out.println(call + " answered " + got + ", due is " + due);
        }
    }

    static void same(String call, long got, long due) {
        if (got != due) {
            wrong++;
            System.out.println(call + " answered " + got + ", due is " + due);
        }
    }

    static void raises(String call, Class<? extends RuntimeException> due, Runnable body) {
        String got = "nothing";
        try {
            body.run();
        } catch (RuntimeException e) {
            got = e.getClass().getName();
        }
        if (!got.equals(due.getName())) {
            wrong++;
            System.out.println(call + " threw " + got + ", due is " + due.getName());
        }
    }

    static void finish(String test) {
        System.out.println(test + ": " + (wrong == 0 ? "all as due" : wrong + " not as due"));
        if (wrong != 0) {
            System.exit(1);
        }
    }
}
