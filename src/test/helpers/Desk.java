/**
 * An OreSolver whose calls are counted. What an object answers behind its 512th call is free, so a test that goes on
 * asking is itself at fault, and is stopped.
 */
public final class Desk {
    static final int DERIVATIVE = 0;
    static final int SHIFT = 1;
    static final int[] KINDS = {DERIVATIVE, SHIFT};
    static final int[] NO_REGISTERS = {-1, 8, 9, -8, 31, 256, Integer.MIN_VALUE, Integer.MAX_VALUE};
    static final int CALLS = 512;

    private final OreSolver solver;
    private int calls = 0;

    /** Reads the texts into the registers 0, 1, .. */
    Desk(int kind, String... texts) {
        solver = new OreSolver(kind);
        for (int register = 0; register < texts.length; register++) {
            if (put(register, texts[register]) < 0) {
                throw new IllegalArgumentException(texts[register]);
            }
        }
    }

    int callsLeft() {
        return CALLS - calls;
    }

    private OreSolver counted() {
        calls++;
        if (calls > CALLS) {
            throw new IllegalStateException("a test asks for more than the document promises");
        }
        return solver;
    }

    boolean type(char c) {
        return counted().type(c);
    }

    int clear() {
        return counted().clear();
    }

    int read(int register) {
        return counted().read(register);
    }

    int order(int register) {
        return counted().order(register);
    }

    int coefficient(int register, int i, int k) {
        return counted().coefficient(register, i, k);
    }

    int add(int to, int a, int b, int times) {
        return counted().add(to, a, b, times);
    }

    int multiply(int to, int a, int b) {
        return counted().multiply(to, a, b);
    }

    int apply(int to, int a, int f) {
        return counted().apply(to, a, f);
    }

    int divide(int quotient, int rest, int a, int b) {
        return counted().divide(quotient, rest, a, b);
    }

    int over(int to, int a, int b) {
        return counted().over(to, a, b);
    }

    int solve(int a, int g, int d) {
        return counted().solve(a, g, d);
    }

    int pick(int to, int i) {
        return counted().pick(to, i);
    }

    int factor(int a) {
        return counted().factor(a);
    }

    int line(int i) {
        return counted().line(i);
    }

    boolean same(int a, int b) {
        return counted().same(a, b);
    }

    int show(int register) {
        return counted().show(register);
    }

    int at(int i) {
        return counted().at(i);
    }

    /** Types all characters, which must be taken. */
    void write(String text) {
        for (int i = 0; i < text.length(); i++) {
            if (!type(text.charAt(i))) {
                throw new IllegalArgumentException(text);
            }
        }
    }

    int put(int register, String text) {
        clear();
        write(text);
        return read(register);
    }

    String shown(int register) {
        int length = show(register);
        StringBuilder text = new StringBuilder();
        for (int i = 0; i < length; i++) {
            text.append((char) at(i));
        }
        return text.toString();
    }
}
