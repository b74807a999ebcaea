/** Compares answers with those that are due, and ends a test with exit code 1 if one was not. */
final class Check {
    private static int wrong = 0;
    private static int seen = 0;

    private Check() {
    }

    static void due(String call, long got, long want) {
        seen++;
        if (got != want) {
            wrong++;
            if (wrong <= 40) {
                System.out.println(call + " answered " + got + ", due is " + want);
            }
        }
    }

    static void holds(String what, boolean does) {
        seen++;
        if (!does) {
            wrong++;
            System.out.println("does not hold: " + what);
        }
    }

    static void finish() {
        System.out.println(seen + " answers looked at, " + wrong + " not as due");
        if (wrong != 0) {
            System.exit(1);
        }
    }
}
