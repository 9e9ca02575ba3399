/** Counts checks, and prints each answer that is not the one that is due. */
public final class Due {
    private static int wrong = 0;
    private static int checks = 0;
    private static int sentences = 0;
    private static int checksBefore = 0;
    private static String subject = "";

    private Due() {
    }

    /** Names what the checks that follow are about. */
    static void about(String words) {
        subject = words;
    }

    /** Names the sentence that the checks that follow are about. */
    static void sentence(String words) {
        endSentence();
        sentences++;
        checksBefore = checks;
        about(words);
    }

    private static void endSentence() {
        if (sentences > 0 && checks == checksBefore) {
            fault("this sentence has no check");
        }
    }

    static void fault(String words) {
        wrong++;
        System.out.println(subject + "\n    " + words);
    }

    static void be(String what, Object got, Object want) {
        checks++;
        if (!got.equals(want)) {
            fault(what + " answered " + got + ", due is " + want);
        }
    }

    static void be(String what, int got, int want) {
        be(what, (Object) got, (Object) want);
    }

    static void bad(String what, int got) {
        be(what, got, OreSolver.BAD);
    }

    static void hold(Desk desk, int register, String want) {
        be("what register " + register + " holds", desk.shown(register), want);
    }

    /** The text is read, and says what is wanted. */
    static void read(int kind, String text, String want) {
        Desk desk = new Desk(kind, "5T^3");
        int answer = desk.put(0, text);
        be("read of " + text, answer, desk.order(0) + 1);
        be("what was read from " + text, desk.shown(0), want);
    }

    /** The texts are refused, and the register stays as it was. */
    static void refuse(int kind, int answer, String... texts) {
        for (String text : texts) {
            Desk desk = new Desk(kind, "5T^3");
            be("read of " + text, desk.put(0, text), answer);
            be("what is held behind read of " + text, desk.shown(0), "5T^3");
        }
    }

    /** Ends the test, with exit code 1 if something was wrong. */
    static void end() {
        endSentence();
        String head = sentences > 0 ? sentences + " tests of sentences, " : "";
        System.out.println(head + checks + " checks, " + wrong + " wrong");
        if (wrong != 0) {
            System.exit(1);
        }
    }
}
