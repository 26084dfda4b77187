/** Prints every answer that is not the one that is due, and counts them. */
final class Report {
    private static int wrong = 0;
    private static int held = 0;

    private Report() {
    }

    static void same(String what, String got, String want) {
        if (got.equals(want)) {
            held++;
        } else {
            wrong++;
            System.out.println(what + " answered " + got + ", due is " + want);
        }
    }

    static boolean isClean() {
        return wrong == 0;
    }

    static void end() {
        System.out.println(isClean() ? "all " + held + " answers are as due" : wrong + " answers are not as due");
        if (!isClean()) {
            System.exit(1);
        }
    }
}
