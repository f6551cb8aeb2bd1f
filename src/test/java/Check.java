/** Counts answers that are not as due, and ends the test by them. */
final class Check {
    private static int wrong = 0;
    private static int looked = 0;
    /** Stands ahead of what is wrong, so that the test can be found. */
    static String heading = "";

    private Check() {
    }

    static void due(String what, long got, long want) {
        looked++;
        if (got != want) {
            wrong++;
            System.out.println(heading + what + " answered " + got + ", due is " + want);
        }
    }

    static void due(String what, String got, String want) {
        looked++;
        if (!got.equals(want)) {
            wrong++;
            System.out.println(heading + what + " is \"" + got + "\", due is \"" + want + "\"");
        }
    }

    static void holds(String what, boolean so) {
        due(what, so ? 1 : 0, 1);
    }

    static void end(String test) {
        System.out.println(test + ": " + looked + " looked at, " + wrong + " wrong");
        if (wrong != 0 || looked == 0) {
            System.exit(1);
        }
    }
}
