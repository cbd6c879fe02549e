/** Compares answers with those that are due, and remembers how many were wrong. */
final class Check {
    private static int asked = 0, wrong = 0;

    private Check() { }

    static void due(String call, long got, long want) {
        asked++;
        if (got == want) return;
        wrong++;
        System.out.println(call + " answered " + got + ", due is " + want);
    }

    /** Several answers at once, written one behind the other. */
    static void due(String call, String got, String want) {
        asked++;
        if (got.equals(want)) return;
        wrong++;
        System.out.println(call + " answered " + got + ", due is " + want);
    }

    static void raises(String call, Class<? extends RuntimeException> due, Runnable what) {
        asked++;
        try {
            what.run();
        } catch (RuntimeException e) {
            if (e.getClass() == due) return;
            wrong++;
            System.out.println(call + " threw " + e + ", due is " + due.getSimpleName());
            return;
        }
        wrong++;
        System.out.println(call + " threw nothing, due is " + due.getSimpleName());
    }

    static void finish() {
        System.out.println(asked + " answers asked, " + wrong + " are not as due");
        if (wrong > 0) System.exit(1);
    }
}
