/** Counts checks, and prints each answer that is not the one that is due. */
public final class Due {
    private static int wrong = 0;
    private static int checks = 0;
    private static String subject = "";

    private Due() {
    }

    /** Names what the checks that follow are about. */
    static void about(String words) {
        subject = words;
    }

    static int checks() {
        return checks;
    }

    static void fault(String words) {
        wrong++;
        System.out.println(subject + "\n    " + words);
    }

    static void be(String what, Object got, Object want) {
        checks++;
        if (!got.equals(want)) {
            fault(what + " answered " + got + ", due is " + want);
        }
    }

    static void be(String what, int got, int want) {
        be(what, (Object) got, (Object) want);
    }

    static void bad(String what, int got) {
        be(what, got, OreSolver.BAD);
    }

    static void hold(Desk desk, int register, String want) {
        be("what register " + register + " holds", desk.shown(register), want);
    }

    /** Ends the test, with exit code 1 if something was wrong. */
    static void end() {
        System.out.println(checks + " checks, " + wrong + " wrong");
        if (wrong != 0) {
            System.exit(1);
        }
    }
}
