/** Counts answers that are not the due ones; a test class ends with done(). */
final class Check {
    private static int checked = 0;
    private static int wrong = 0;

    private Check() {
    }

    static void same(String what, long got, long due) {
        checked++;
        if (got != due) {
            wrong++;
            if (wrong <= 40) {
                System.out.println(what + " answered " + got + ", due is " + due);
            }
        }
    }

    static void same(String what, boolean got, boolean due) {
        same(what, got ? 1 : 0, due ? 1 : 0);
    }

    static void that(String what, boolean holds) {
        same(what, holds, true);
    }

    static boolean anyWrong() {
        return wrong > 0;
    }

    static void done(String name) {
        System.out.println(name + ": " + checked + " answers, " + wrong + " wrong");
        if (wrong > 0) {
            System.exit(1);
        }
    }
}
