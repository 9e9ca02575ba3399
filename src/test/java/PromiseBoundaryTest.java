/**
 * Every sentence of the promises that names a boundary, in the document's order, with a test of its own: what is just
 * inside it, and what is just outside.
 */
public final class PromiseBoundaryTest {
    private static final int SHIFT = Desk.SHIFT;
    private static final int DERIVATIVE = Desk.DERIVATIVE;
    private static final int BAD = OreSolver.BAD;
    private static final int SYNTAX = OreSolver.SYNTAX;
    private static final int LARGE = OreSolver.LARGE;
    private static final int NONE = OreSolver.NONE;
    private static final int ORDER = OreSolver.ORDER;
    private static final int LEAST = Integer.MIN_VALUE;
    private static final int GREATEST = Integer.MAX_VALUE;
    private static final int[] NO_REGISTERS = Desk.NO_REGISTERS;
    /** The coefficients of (x + 1)^12. */
    private static final int[] BINOMIALS = {1, 12, 66, 220, 495, 792, 924, 792, 495, 220, 66, 12, 1};

    public static void main(String[] args) {
        for (int kind : Desk.KINDS) {
            kinds(kind);
            nothingSolved(kind);
            typeCodes(kind);
            typeFull(kind);
            clearAnswers(kind);
            readKeepsText(kind);
            readAnswers(kind);
            readSyntax(kind);
            readLarge(kind);
            orderOfRegisters(kind);
            coefficientBounds(kind);
            addTimes(kind);
            multiplyBounds(kind);
            applyOrder(kind);
            divideRest(kind);
            divideIntoOne(kind);
            divideOrder(kind);
            divideLarge(kind);
            overOrder(kind);
            overLeast(kind);
            overSolutions(kind);
            overLarge(kind);
            solveDegrees(kind);
            solveOrder(kind);
            solveNone(kind);
            pickIndices(kind);
            pickOfLastSolve(kind);
            factorOfNothing(kind);
            factorCounts(kind);
            lineIndices(kind);
            lineOfLastFactor(kind);
            sameRegisters(kind);
            showNothing(kind);
            showTerms(kind);
            showInPlace(kind);
            showRegisters(kind);
            atAtFirst(kind);
            atIndices(kind);
        }
        Due.end();
    }

    private static void kinds(int kind) {
        Due.sentence("A desk, of the kind DERIVATIVE if kind is 0, otherwise SHIFT.");
        int[] kinds = kind == DERIVATIVE ? new int[] {0} : new int[] {1, 2, -1, 31, 256, 65536, LEAST, GREATEST};
        for (int number : kinds) {
            Desk desk = new Desk(number, "Tx", "x^2", "T", "T-x");
            Due.hold(desk, 0, kind == SHIFT ? "xT+T" : "xT+1");
            desk.multiply(4, 2, 1);
            Due.hold(desk, 4, kind == SHIFT ? "x^2T+2xT+T" : "x^2T+2x");
            desk.apply(4, 2, 1);
            Due.hold(desk, 4, kind == SHIFT ? "x^2+2x+1" : "2x");
            Due.be("over", desk.over(4, 2, 1), 1);
            Due.hold(desk, 4, kind == SHIFT ? "x^2T" : "x^2T+29x");
            Due.be("solve", desk.solve(2, 5, 12), kind == SHIFT ? 0 : 1);
            desk.multiply(6, 3, 3);
            Due.be("divide", desk.divide(4, 5, 6, 2), 0);
            Due.hold(desk, 5, kind == SHIFT ? "x^2" : "x^2+30");
            desk.put(6, "T^2-x^2-1");
            Due.be("factor", desk.factor(6), kind == SHIFT ? 0 : 1);
        }
    }

    private static void nothingSolved(int kind) {
        Due.sentence("Nothing was solved and factored.");
        Desk desk = new Desk(kind);
        for (int i : new int[] {0, 1, -1, 2, 12, 13, 14, LEAST, GREATEST}) {
            Due.bad("pick(0, " + i + ") at first", desk.pick(0, i));
            Due.bad("line(" + i + ") at first", desk.line(i));
        }
        desk.put(0, "0");
        desk.put(1, "T");
        Due.be("solve that is refused", desk.solve(0, 1, 12), ORDER);
        Due.bad("pick behind a solve that was refused", desk.pick(0, 0));
        desk.put(1, "x");
        Due.be("solve without solutions", desk.solve(0, 1, 12), NONE);
        Due.bad("pick behind a solve without solutions", desk.pick(0, 0));
        Due.be("factor that is refused", desk.factor(0), ORDER);
        Due.bad("line behind a factor that was refused", desk.line(0));
    }

    private static void typeCodes(int kind) {
        Due.sentence("type: False if the code is not 33 .. 126.");
        Desk desk = new Desk(kind);
        for (int code = 0; code < 33; code++) {
            Due.be("type of code " + code, desk.type((char) code), false);
        }
        for (int code = 127; code < 300; code++) {
            Due.be("type of code " + code, desk.type((char) code), false);
        }
        for (int code : new int[] {32767, 32768, 65408, 65535, 256 + 33, 512 + 'x', 65536 - 128 + 'T'}) {
            Due.be("type of code " + code, desk.type((char) code), false);
        }
        Due.be("clear", desk.clear(), 0);
        desk = new Desk(kind);
        for (int code = 33; code <= 126; code++) {
            Due.be("type of code " + code, desk.type((char) code), true);
            Due.be("clear", desk.clear(), 1);
        }
    }

    private static void typeFull(int kind) {
        Due.sentence("type: A character comes to the end of the text. True; false if it has 40.");
        Desk desk = new Desk(kind);
        for (int n = 1; n <= 39; n++) {
            Due.be("character " + n, desk.type(n % 2 == 0 ? '+' : '1'), true);
        }
        Due.be("read of 39 characters", desk.read(0), 1);
        Due.be("character 40", desk.type('5'), true);
        Due.be("character 41", desk.type('9'), false);
        Due.be("character 42", desk.type('9'), false);
        Due.be("a code that is none", desk.type(' '), false);
        Due.be("read of 40 characters", desk.read(0), 1);
        Due.hold(desk, 0, Integer.toString((19 + 15) % 31));
        Due.be("clear", desk.clear(), 40);
        Due.be("character 1", desk.type('x'), true);
        Due.be("read", desk.read(0), 1);
        Due.hold(desk, 0, "x");
        desk.type('T');
        Due.be("read of xT", desk.read(0), 2);
        Due.hold(desk, 0, "xT");
    }

    private static void clearAnswers(int kind) {
        Due.sentence("clear: The text becomes empty. Answers how many characters it had.");
        Desk desk = new Desk(kind);
        Due.be("clear of no text", desk.clear(), 0);
        desk.write("x");
        Due.be("clear of 1", desk.clear(), 1);
        Due.be("clear of no text", desk.clear(), 0);
        Due.be("read of no text", desk.read(0), SYNTAX);
        desk.write("x".repeat(39));
        Due.be("clear of 39", desk.clear(), 39);
        desk.write("5".repeat(40));
        Due.be("clear of 40", desk.clear(), 40);
        Due.be("read of no text", desk.read(0), SYNTAX);
        for (int n = 1; n <= 40; n++) {
            Due.be("character " + n + " behind clear", desk.type('0'), true);
        }
        Due.be("character 41 behind clear", desk.type('0'), false);
        desk = new Desk(kind, "T^2-1");
        desk.factor(0);
        desk.solve(7, 7, 1);
        desk.show(0);
        desk.clear();
        Due.be("at behind clear", desk.at(0), 'T');
        Due.be("line behind clear", desk.line(1), 30);
        Due.be("pick behind clear", desk.pick(7, 2), 2);
        Due.hold(desk, 0, "T^2+30");
    }

    private static void readKeepsText(int kind) {
        Due.sentence("read: The register gets the operator that the text says; the text stays.");
        Desk desk = new Desk(kind);
        desk.write("T^2+x");
        for (int register = 0; register < 8; register++) {
            Due.be("read", desk.read(register), 3);
        }
        for (int register = 0; register < 8; register++) {
            Due.hold(desk, register, "T^2+x");
        }
        desk.write("+5");
        Due.be("read", desk.read(7), 3);
        Due.hold(desk, 7, "T^2+x+5");
        Due.hold(desk, 6, "T^2+x");
        desk.write("+");
        Due.be("read", desk.read(7), SYNTAX);
        desk.write("T^3");
        Due.be("read", desk.read(7), 4);
        desk.write("T^2");
        Due.be("read", desk.read(7), LARGE);
        Due.hold(desk, 7, "T^3+T^2+x+5");
        Due.be("clear", desk.clear(), 14);
    }

    private static void readAnswers(int kind) {
        Due.sentence("read: Answers its order plus 1.");
        Desk desk = new Desk(kind);
        Due.be("read of 0", desk.put(0, "0"), 0);
        Due.be("read of T-T", desk.put(0, "T-T"), 0);
        Due.be("read of 31T^4", desk.put(0, "31T^4"), 0);
        Due.be("read of 1", desk.put(0, "1"), 1);
        Due.be("read of x^12", desk.put(0, "x^9x^3"), 1);
        Due.be("read of T", desk.put(0, "T"), 2);
        Due.be("read of T^4", desk.put(0, "T^4"), 5);
        Due.be("read of Tx-xT", desk.put(0, "Tx-xT"), kind == SHIFT ? 2 : 1);
    }

    private static void readSyntax(int kind) {
        Due.sentence("read: SYNTAX if the text is no sum by the grammar.");
        Due.refuse(kind, SYNTAX, "", "y", "x+", "x*", "x^", "(x", "x)", "x!", "2x,", "x+y", "x_y", "T'",
            "x=1", "~", "!");
        Desk desk = new Desk(kind);
        desk.write("x+x+x+x+x+x+x+x+x+x+x+x+x+x+x+x+x+x+x+x");
        Due.be("read of 39 characters", desk.read(0), 1);
        Due.hold(desk, 0, "20x");
        desk.write("+");
        Due.be("read of 40 characters", desk.read(0), SYNTAX);
        Due.hold(desk, 0, "20x");
        for (int register : NO_REGISTERS) {
            Due.bad("read(" + register + ")", desk.read(register));
        }
    }

    private static void readLarge(int kind) {
        Due.sentence("read: LARGE if some value in it is more than a register can hold: that of an atom, "
            + "a power, some of a product's powers from its first one on, or some of a sum's products "
            + "from its first one on.");
        // an atom
        Due.read(kind, "(x^9x^3)", "x^12");
        Due.refuse(kind, LARGE, "(x^9x^4)", "(T^5)", "(T^5)^0", "0(T^5)", "(x^9x^4-x^9x^4)", "(1+(2+(3+(T^5))))");
        // a power
        Due.read(kind, "T^4", "T^4");
        Due.read(kind, "(x^2)^6", "x^12");
        Due.read(kind, "(x^3)^4", "x^12");
        Due.read(kind, "(x^4)^3", "x^12");
        Due.read(kind, "(x^6)^2", "x^12");
        Due.read(kind, "(T^2)^2", "T^4");
        Due.refuse(kind, LARGE, "T^5", "T^6", "T^9", "(x^2)^7", "(x^4)^4", "(x^9)^2", "(x^7)^2", "(T^2)^3", "(T^3)^2",
            "(T^4)^2", "(T+x)^5", "0T^5", "T^5-T^5", "1+0*T^5", "(x^9x^3T^4)^2", "(x^2)^9", "(x^9x^3)^9", "(T^4)^9");
        // some of a product's powers from its first one on
        Due.read(kind, "x^9x^3T^4", "x^12T^4");
        Due.read(kind, "x^9*x^3*T^3*T", "x^12T^4");
        Due.read(kind, "0x^9x^9T^4T^4", "0");
        Due.refuse(kind, LARGE, "x^9x^4", "x^9x^4*0", "x^9x^3x", "xx^9x^3", "T^4T", "TT^4", "T^3T^2", "T^4T0",
            "T^2T^2xT", "x^9x^9T^4", "x^9x^4-x^9x^4", "2*x^9*x^4*0*1", "(x^9+1)(x^4+1)", "x^9x^9x^9x^9",
            "T^4T^4T^4T^4");
        // some of a sum's products from its first one on
        Due.read(kind, "x^9x^3T^4+x^9x^3T^4-2x^9x^3T^4+T", "T");
        Due.refuse(kind, LARGE, "T+T^5", "T^5+T", "T-T^5+T^5", "x^9x^4-x^9x^4+1", "1+(x^9x^4-x^9x^4)");
    }

    private static void orderOfRegisters(int kind) {
        Due.sentence("order: The order of the operator in a register (-1 for the polynomial 0); "
            + "-2 if there is no such register.");
        Desk desk = new Desk(kind, "0", "5", "x", "T", "T^2", "T^3", "T^4", "x^9x^3T^4");
        for (int register = 0; register < 8; register++) {
            Due.be("order(" + register + ")", desk.order(register), new int[] {-1, 0, 0, 1, 2, 3, 4, 4}[register]);
        }
        for (int none : NO_REGISTERS) {
            Due.be("order(" + none + ")", desk.order(none), -2);
        }
    }

    private static void coefficientBounds(int kind) {
        Due.sentence("coefficient: BAD if there is no such register, i is not 0 .. 4 or k not 0 .. 12.");
        Desk desk = new Desk(kind, "2x^9x^3T^4+3x^9x^3+4T^4+5", "xT");
        Due.be("coefficient(0, 4, 12)", desk.coefficient(0, 4, 12), 2);
        Due.be("coefficient(0, 0, 12)", desk.coefficient(0, 0, 12), 3);
        Due.be("coefficient(0, 4, 0)", desk.coefficient(0, 4, 0), 4);
        Due.be("coefficient(0, 0, 0)", desk.coefficient(0, 0, 0), 5);
        Due.be("coefficient(0, 2, 6)", desk.coefficient(0, 2, 6), 0);
        Due.be("coefficient(1, 1, 1)", desk.coefficient(1, 1, 1), 1);
        Due.be("coefficient above the order", desk.coefficient(1, 4, 12), 0);
        Due.be("coefficient in register 7", desk.coefficient(7, 4, 12), 0);
        for (int none : NO_REGISTERS) {
            Due.bad("coefficient(" + none + ", 0, 0)", desk.coefficient(none, 0, 0));
            Due.bad("coefficient(" + none + ", 5, 13)", desk.coefficient(none, 5, 13));
        }
        for (int none : new int[] {-1, 5, 6, 13, LEAST, GREATEST}) {
            Due.bad("coefficient(0, " + none + ", 0)", desk.coefficient(0, none, 0));
            Due.bad("coefficient(0, " + none + ", 12)", desk.coefficient(0, none, 12));
        }
        for (int none : new int[] {-1, 13, 14, 65, LEAST, GREATEST}) {
            Due.bad("coefficient(0, 0, " + none + ")", desk.coefficient(0, 0, none));
            Due.bad("coefficient(0, 4, " + none + ")", desk.coefficient(0, 4, none));
        }
    }

    private static void addTimes(int kind) {
        Due.sentence("add: BAD also if times is not 0 .. 30. Answers 0.");
        Desk desk = new Desk(kind, "30x^9x^3T^4+x", "2x^9x^3T^4+30");
        Due.be("add 0 times", desk.add(7, 0, 1, 0), 0);
        Due.hold(desk, 7, "30x^12T^4+x");
        Due.be("add 1 time", desk.add(7, 0, 1, 1), 0);
        Due.hold(desk, 7, "x^12T^4+x+30");
        Due.be("add 30 times", desk.add(7, 0, 1, 30), 0);
        Due.hold(desk, 7, "28x^12T^4+x+1");
        Due.be("add 16 times", desk.add(7, 0, 1, 16), 0);
        Due.hold(desk, 7, "x+15");
        for (int none : new int[] {-1, 31, 32, -31, 62, LEAST, GREATEST}) {
            Due.bad("add " + none + " times", desk.add(7, 0, 1, none));
        }
        Due.hold(desk, 7, "x+15");
        for (int none : NO_REGISTERS) {
            Due.bad("add to " + none, desk.add(none, 0, 1, 0));
            Due.bad("add a " + none, desk.add(7, none, 1, 0));
            Due.bad("add b " + none, desk.add(7, 0, none, 0));
        }
        Due.hold(desk, 7, "x+15");
    }

    private static void multiplyBounds(int kind) {
        Due.sentence("multiply: Register to gets the product of those of a and b. Answers 0.");
        Desk desk = new Desk(kind, "x^9x^3T^4", "0", "1", "30", "T", "x");
        Due.be("multiply by 0", desk.multiply(7, 0, 1), 0);
        Due.hold(desk, 7, "0");
        desk.add(7, 0, 1, 0);
        Due.be("multiply 0", desk.multiply(7, 1, 0), 0);
        Due.hold(desk, 7, "0");
        Due.be("multiply by 1", desk.multiply(7, 0, 2), 0);
        Due.hold(desk, 7, "x^12T^4");
        Due.be("multiply by 30", desk.multiply(7, 3, 0), 0);
        Due.hold(desk, 7, "30x^12T^4");
        Due.be("multiply to order 5", desk.multiply(7, 0, 4), LARGE);
        Due.be("multiply to order 5", desk.multiply(7, 4, 0), LARGE);
        Due.be("multiply to degree 13", desk.multiply(7, 0, 5), LARGE);
        Due.be("multiply to degree 13", desk.multiply(7, 5, 0), LARGE);
        Due.be("multiply to order 8 and degree 24", desk.multiply(7, 0, 0), LARGE);
        Due.hold(desk, 7, "30x^12T^4");
        for (int none : NO_REGISTERS) {
            Due.bad("multiply to " + none, desk.multiply(none, 2, 2));
            Due.bad("multiply a " + none, desk.multiply(7, none, 2));
            Due.bad("multiply b " + none, desk.multiply(7, 2, none));
        }
        Due.hold(desk, 7, "30x^12T^4");
        // every order and degree that two factors can make together
        for (int i = 0; i <= 4; i++) {
            for (int j = 0; j <= 4; j++) {
                desk = new Desk(kind, "xT^" + i, "(x+2)^2T^" + j);
                Due.be("multiply to order " + (i + j), desk.multiply(7, 0, 1), i + j > 4 ? LARGE : 0);
                Due.be("order", desk.order(7), i + j > 4 ? -1 : i + j);
            }
        }
        for (int k = 3; k <= 9; k++) {
            for (int l = 3; l <= 9; l++) {
                desk = new Desk(kind, "(x+1)^" + k, "T+x^" + l);
                Due.be("multiply to degree " + (k + l), desk.multiply(7, 0, 1), k + l > 12 ? LARGE : 0);
                Due.be("multiply to degree " + (k + l), desk.multiply(6, 1, 0), k + l > 12 ? LARGE : 0);
            }
        }
    }

    private static void applyOrder(int kind) {
        Due.sentence("apply: ORDER if the order of f is more than 0. Answers 0.");
        Desk desk = new Desk(kind, "xT", "0", "7", "x^9x^3", "T", "T^4", "T-T+1");
        Due.be("apply to 0", desk.apply(7, 0, 1), 0);
        Due.hold(desk, 7, "0");
        Due.be("apply to 7", desk.apply(7, 0, 2), 0);
        Due.hold(desk, 7, kind == SHIFT ? "7x" : "0");
        Due.be("apply to x^12", desk.apply(7, 0, 3), kind == SHIFT ? LARGE : 0);
        Due.hold(desk, 7, kind == SHIFT ? "7x" : "12x^12");
        Due.be("apply to T-T+1", desk.apply(7, 4, 6), 0);
        Due.hold(desk, 7, kind == SHIFT ? "1" : "0");
        Due.be("apply to T", desk.apply(7, 0, 4), ORDER);
        Due.be("apply to T^4", desk.apply(7, 0, 5), ORDER);
        Due.be("apply 0 to T", desk.apply(7, 1, 4), ORDER);
        Due.be("apply 0 to x^12", desk.apply(7, 1, 3), 0);
        Due.hold(desk, 7, "0");
        Due.be("apply x^12 to x^12", desk.apply(7, 3, 3), LARGE);
        Due.be("apply x^12 to 7", desk.apply(7, 3, 2), 0);
        Due.hold(desk, 7, "7x^12");
        for (int none : NO_REGISTERS) {
            Due.bad("apply to " + none, desk.apply(none, 0, 2));
            Due.bad("apply a " + none, desk.apply(7, none, 2));
            Due.bad("apply f " + none, desk.apply(7, 0, none));
        }
        Due.hold(desk, 7, "7x^12");
    }

    private static void divideRest(int kind) {
        Due.sentence("divide: A = Q B + R, R having an order of less than n. Answers 0.");
        String[] divisors = {"7", "3T+x", "2T^2-x", "T^3+xT", "5T^4+x^3"};
        String[] dividends = {"0", "4", "x^9x^3", "T+x", "xT^2", "T^3-1", "x^2T^4+x"};
        for (int n = 0; n < divisors.length; n++) {
            for (String text : dividends) {
                Desk desk = new Desk(kind, text, divisors[n], "T", "T");
                Due.be("divide " + text + " by " + divisors[n], desk.divide(2, 3, 0, 1), 0);
                Due.be("order of R below n", desk.order(3) < n, true);
                Due.be("order of Q", desk.order(2), Math.max(desk.order(0) - n, -1));
                desk.multiply(4, 2, 1);
                desk.add(4, 4, 3, 1);
                Due.be("Q B + R = A", desk.same(4, 0), true);
            }
        }
        Desk desk = new Desk(kind, "T", "T^2", "x^9x^3T^4", "30");
        Due.be("divide T by T^2", desk.divide(5, 6, 0, 1), 0);
        Due.hold(desk, 5, "0");
        Due.hold(desk, 6, "T");
        Due.be("divide T^2 by T^2", desk.divide(5, 6, 1, 1), 0);
        Due.hold(desk, 5, "1");
        Due.hold(desk, 6, "0");
        Due.be("divide by a number", desk.divide(5, 6, 2, 3), 0);
        Due.hold(desk, 5, "30x^12T^4");
        Due.hold(desk, 6, "0");
        Due.be("divide x^12 T^4 by T", desk.divide(5, 6, 2, 0), 0);
        Due.hold(desk, 5, "x^12T^3");
        Due.hold(desk, 6, "0");
    }

    private static void divideIntoOne(int kind) {
        Due.sentence("divide: BAD also if quotient is rest.");
        for (int register = 0; register < 8; register++) {
            Desk desk = new Desk(kind, "T^2", "T");
            Due.bad("divide into " + register, desk.divide(register, register, 0, 1));
            Due.be("divide", desk.divide(register, (register + 1) % 8, 0, 1), 0);
        }
        Desk desk = new Desk(kind, "T^2", "T");
        for (int none : NO_REGISTERS) {
            Due.bad("divide into " + none, desk.divide(none, none, 0, 1));
            Due.bad("divide, quotient " + none, desk.divide(none, 5, 0, 1));
            Due.bad("divide, rest " + none, desk.divide(5, none, 0, 1));
            Due.bad("divide, a " + none, desk.divide(5, 6, none, 1));
            Due.bad("divide, b " + none, desk.divide(5, 6, 0, none));
        }
    }

    private static void divideOrder(int kind) {
        Due.sentence("divide: ORDER if B is 0 or its coefficient of T^n is not a number (of degree 0).");
        String[] right = {"1", "30", "T", "30T^4", "T+x^9", "T^4+x^9x^3T^3", "2T^2+x"};
        String[] wrong = {"0", "T-T", "x", "x+1", "x^9x^3", "xT", "(x+1)T^4", "x^9x^3T^4", "xT^2+T+1", "(2+x)T+1"};
        for (String text : right) {
            Desk desk = new Desk(kind, "1", text);
            Due.be("divide by " + text, desk.divide(2, 3, 0, 1), 0);
        }
        for (String text : wrong) {
            Desk desk = new Desk(kind, "x^2", text);
            Due.be("divide by " + text, desk.divide(2, 3, 0, 1), ORDER);
            Due.be("divide 0 by " + text, desk.divide(2, 3, 4, 1), ORDER);
            Due.be("divide into itself by " + text, desk.divide(1, 3, 1, 1), ORDER);
        }
        for (int number = 1; number <= 30; number++) {
            Desk desk = new Desk(kind, "T^2+x", number + "T+1");
            Due.be("divide by " + number + "T+1", desk.divide(2, 3, 0, 1), 0);
            desk.multiply(4, 2, 1);
            desk.add(4, 4, 3, 1);
            Due.be("Q B + R = A", desk.same(4, 0), true);
        }
    }

    private static void divideLarge(int kind) {
        Due.sentence("divide: LARGE if Q or R is more than a register can hold");
        int[][] cases = {{1, 9, 0}, {2, 6, 0}, {2, 7, LARGE}, {3, 4, 0}, {3, 5, LARGE}, {4, 3, 0},
            {4, 4, LARGE}, {4, 9, LARGE}};
        for (int[] row : cases) {
            Desk desk = new Desk(kind, "T^" + row[0], "T+x^" + row[1], "T^2+1", "x^5T");
            Due.be("divide T^" + row[0] + " by T+x^" + row[1], desk.divide(2, 3, 0, 1), row[2]);
            if (row[2] == 0) {
                Due.be("order of Q", desk.order(2), row[0] - 1);
                int sign = row[0] % 2 == 0 ? 1 : 30;
                Due.be("coefficient of R", desk.coefficient(3, 0, row[0] * row[1]), sign);
            } else {
                Due.hold(desk, 2, "T^2+1");
                Due.hold(desk, 3, "x^5T");
            }
        }
        // Q alone has room
        Desk desk = new Desk(kind, "xT", "T+x^9x^3", "T^2+1", "x^5T", "T");
        Due.be("divide xT by T+x^12", desk.divide(2, 3, 0, 1), LARGE);
        Due.hold(desk, 2, "T^2+1");
        Due.hold(desk, 3, "x^5T");
        Due.be("divide T by T+x^12", desk.divide(2, 3, 4, 1), 0);
        Due.hold(desk, 2, "1");
        Due.hold(desk, 3, "30x^12");
        // Q B is T^3 + T x^12
        desk = new Desk(kind, "T^3", "T^2+x^9x^3");
        Due.be("divide T^3 by T^2+x^12", desk.divide(2, 3, 0, 1), 0);
        Due.hold(desk, 2, "T");
        for (int k = 0; k <= 12; k++) {
            Due.be("R at x^" + k, desk.coefficient(3, 0, k), kind == SHIFT || k != 11 ? 0 : 31 - 12);
            int want = kind == SHIFT ? 30 * BINOMIALS[k] % 31 : k == 12 ? 30 : 0;
            Due.be("R at x^" + k + " T", desk.coefficient(3, 1, k), want);
        }
        desk = new Desk(kind, "x^9x^3T^4", "T+x^9x^3", "x^9x^3T");
        Due.be("divide to degree 48", desk.divide(3, 4, 0, 1), LARGE);
        Due.be("divide to degree 24", desk.divide(3, 4, 2, 1), LARGE);
    }

    private static void overOrder(int kind) {
        Due.sentence("over: ORDER if the order of b is not 0, or that of a is -1.");
        Desk desk = new Desk(kind, "T", "0", "x", "T-T", "T+x", "5", "T^4");
        Due.be("over x", desk.over(7, 0, 2), 1);
        Due.be("over 5", desk.over(7, 0, 5), 1);
        Due.hold(desk, 7, "5T");
        for (int b : new int[] {0, 1, 3, 4, 6}) {
            Due.be("over register " + b, desk.over(7, 0, b), ORDER);
            Due.be("over of 0", desk.over(7, 1, b), ORDER);
        }
        Due.be("over of 0", desk.over(7, 1, 2), ORDER);
        Due.be("over of T-T", desk.over(7, 3, 5), ORDER);
        Due.be("over of 5", desk.over(6, 5, 2), 0);
        Due.hold(desk, 6, "5");
        Due.hold(desk, 7, "5T");
        for (int none : NO_REGISTERS) {
            Due.bad("over to " + none, desk.over(none, 0, 2));
            Due.bad("over a " + none, desk.over(7, none, 2));
            Due.bad("over b " + none, desk.over(7, 0, none));
        }
    }

    private static void overLeast(int kind) {
        Due.sentence("over: the sum of terms a_i M_i over all i from 0 to n. Answers the order of M.");
        Desk desk = new Desk(kind, "x^9x^3+3", "x^9x^3+1", "2T", "x^2", "T+1");
        Due.be("over with n = 0", desk.over(7, 0, 1), 0);
        Due.be("the operator itself", desk.same(7, 0), true);
        Due.be("over with n = 1", desk.over(7, 2, 1), 1);
        Due.be("coefficient", desk.coefficient(7, 1, 12), 2);
        Due.be("coefficient", desk.coefficient(7, 0, 11), kind == SHIFT ? 0 : 31 - 24);
        desk.put(5, "x^9x^3");
        Due.be("over x^12 with n = 1", desk.over(7, 4, 5), 1);
        for (int k = 0; k <= 12; k++) {
            int want = kind == SHIFT ? BINOMIALS[k] % 31 : k == 12 ? 1 : k == 11 ? 31 - 12 : 0;
            Due.be("M at x^" + k, desk.coefficient(7, 0, k), want);
            Due.be("M at x^" + k + " T", desk.coefficient(7, 1, k), k == 12 ? 1 : 0);
        }
        Due.be("over with n = 1", desk.over(7, 4, 3), 1);
        Due.hold(desk, 7, kind == SHIFT ? "x^2T+x^2+2x+1" : "x^2T+x^2+29x");
        for (int n = 0; n <= 4; n++) {
            desk = new Desk(kind, "(x+2)T^" + n + "+3", "x^2+5", kind == SHIFT ? "T" : "1");
            Due.be("over with n = " + n, desk.over(7, 0, 1), n);
            // M q is q q_1 .. q_n L, or q^(n+1) L
            for (int k = 0; k <= 3; k++) {
                desk.put(3, "x^" + k);
                desk.multiply(4, 3, 1);
                Due.be("apply L to x^" + k, desk.apply(5, 0, 3), 0);
                Due.be("apply M to x^" + k + " q", appliedOver(desk, n), true);
            }
        }
    }

    private static void overSolutions(int kind) {
        Due.sentence("over: M f = 0 just when L makes 0 of f / q");
        // L makes 0 of 1/x
        Desk desk = new Desk(kind, kind == SHIFT ? "(x+1)T-x" : "xT+1", "x", "x^2", "x+1", "0");
        Due.be("over x", desk.over(7, 0, 1), 1);
        Due.be("solve", desk.solve(7, 4, 12), 1);
        Due.be("pick", desk.pick(6, 1), 1);
        Due.be("over x^2", desk.over(7, 0, 2), 1);
        Due.be("solve", desk.solve(7, 4, 12), 1);
        Due.be("pick", desk.pick(6, 1), 2);
        Due.hold(desk, 6, "x");
        Due.be("over x+1", desk.over(7, 0, 3), 1);
        Due.be("solve", desk.solve(7, 4, 12), 0);
    }

    /**
     * Whether what M makes of register 4 is what L made, in register 5, times the product of all q, or is too large
     * if that is.
     */
    private static boolean appliedOver(Desk desk, int n) {
        boolean fits = true;
        desk.add(6, 1, 1, 0);
        for (int j = 0; j <= n && fits; j++) {
            fits = desk.multiply(5, 6, 5) == 0;
            desk.apply(6, 2, 6);
        }
        int answer = desk.apply(4, 7, 4);
        return fits ? answer == 0 && desk.same(4, 5) : answer == LARGE;
    }

    private static void overLarge(int kind) {
        Due.sentence("over: LARGE if M is more than a register can hold");
        String[] exact = {"x^9x^3", "x^9x^3", "x^6", "x^4", "x^3"};
        for (int n = 0; n <= 4; n++) {
            Desk desk = new Desk(kind, "T^" + n, exact[n], "xT^" + n, "T^2+1");
            Due.be("over to degree 12", desk.over(7, 0, 1), n);
            Due.be("coefficient", desk.coefficient(7, n, n == 0 ? 0 : 12), 1);
            Due.be("over to degree 13", desk.over(3, 2, 1), n == 0 ? 0 : LARGE);
            if (n > 0) {
                Due.hold(desk, 3, "T^2+1");
            }
        }
        Desk desk = new Desk(kind, "x^9x^3T^4", "x^9x^3", "T^4", "x^9x^3+x+1", "x", "1");
        Due.be("over to degree 60", desk.over(7, 0, 1), LARGE);
        Due.be("over to degree 60", desk.over(7, 0, 3), LARGE);
        Due.be("over to degree 48", desk.over(7, 2, 1), LARGE);
        Due.be("over to degree 16", desk.over(7, 0, 4), LARGE);
        Due.be("over to degree 12", desk.over(7, 0, 5), 4);
        Due.be("the operator itself", desk.same(7, 0), true);
        // only a lower coefficient is too large
        desk = new Desk(kind, "T+x^9", "x^3", "T+x^9x", "T^2+1");
        Due.be("over to degree 12", desk.over(7, 0, 1), 1);
        Due.be("over to degree 13", desk.over(3, 2, 1), LARGE);
        Due.hold(desk, 3, "T^2+1");
    }

    private static void solveDegrees(int kind) {
        Due.sentence("solve: BAD also if d is not 0 .. 12. Answers the dimension.");
        Desk desk = new Desk(kind, "0", "x^9x^3", "x^9x^3+1");
        Due.be("solve up to degree 0", desk.solve(0, 0, 0), 1);
        Due.be("solve up to degree 12", desk.solve(0, 0, 12), 13);
        for (int none : new int[] {-1, 13, 14, -13, LEAST, GREATEST}) {
            Due.bad("solve up to degree " + none, desk.solve(0, 0, none));
        }
        for (int none : NO_REGISTERS) {
            Due.bad("solve a " + none, desk.solve(none, 0, 12));
            Due.bad("solve g " + none, desk.solve(0, none, 12));
        }
        for (int d = 0; d <= 12; d++) {
            Due.be("solve x^12 f = 0", desk.solve(1, 0, d), 0);
            Due.be("solve (x^12 + 1) f = 0", desk.solve(2, 0, d), 0);
        }
        desk = new Desk(kind, kind == SHIFT ? "x^9x^3T^4-x^9x^3" : "x^9x^3T", "0");
        for (int d = 0; d <= 12; d++) {
            Due.be("solve with images of degrees up to 24", desk.solve(0, 1, d), 1);
        }
    }

    private static void solveOrder(int kind) {
        Due.sentence("solve: ORDER if the order of g is more than 0.");
        Desk desk = new Desk(kind, "T", "0", "1", "x^9", "T^4", "xT+1", "T-T");
        Due.be("solve for T", desk.solve(2, 0, 12), ORDER);
        Due.be("solve for T^4", desk.solve(2, 4, 12), ORDER);
        Due.be("solve for xT+1", desk.solve(2, 5, 12), ORDER);
        Due.be("solve of 0 for T", desk.solve(1, 0, 12), ORDER);
        Due.be("solve for itself", desk.solve(0, 0, 12), ORDER);
        Due.be("solve for 0", desk.solve(2, 1, 12), 0);
        Due.be("solve for 1", desk.solve(2, 2, 12), 0);
        Due.be("solve for x^9", desk.solve(2, 3, 12), 0);
        Due.be("solve for T-T", desk.solve(2, 6, 12), 0);
        Due.be("solve of T^4 for 0", desk.solve(4, 1, 12), kind == SHIFT ? 0 : 4);
    }

    private static void solveNone(int kind) {
        Due.sentence("solve: NONE if there are none.");
        Desk desk = new Desk(kind, "0", "1", "x", "x^9x^3", kind == SHIFT ? "T-1" : "T", "x^2T-x");
        Due.be("solve 0 f = 1", desk.solve(0, 1, 12), NONE);
        Due.be("solve 0 f = x^12", desk.solve(0, 3, 12), NONE);
        Due.be("solve 0 f = 0", desk.solve(0, 0, 12), 13);
        Due.be("solve x f = 1", desk.solve(2, 1, 12), NONE);
        Due.be("solve x f = x", desk.solve(2, 2, 0), 0);
        Due.be("solve f = x up to degree 0", desk.solve(1, 2, 0), NONE);
        Due.be("solve f = x up to degree 1", desk.solve(1, 2, 1), 0);
        Due.be("solve x^12 f = 1", desk.solve(3, 1, 12), NONE);
        Due.be("solve x^12 f = x^12", desk.solve(3, 3, 0), 0);
        Due.be("solve for x^12", desk.solve(4, 3, 12), NONE);
        Due.be("solve for 1", desk.solve(4, 1, 12), 1);
        Due.be("solve for 1", desk.solve(4, 1, 0), NONE);
        // the images have coefficients above the degree 12, which must be 0 too
        desk.put(6, "x^9x^3+x^5");
        Due.be("solve (x^12 + x^5) f = x^12", desk.solve(6, 3, 12), NONE);
        Due.be("solve 0 again", desk.solve(0, 0, 3), 4);
    }

    private static void pickIndices(int kind) {
        Due.sentence("pick: the particular one for 0, the basis from 1 on, by ascending degrees. "
            + "BAD also if there is none such. Answers its degree plus 1.");
        Desk desk = new Desk(kind, "0", "1", "x^9x^3", "T^4+x");
        Due.be("solve", desk.solve(0, 0, 12), 13);
        for (int i = 0; i <= 13; i++) {
            Due.be("pick(" + i + ")", desk.pick(4, i), i);
            Due.be("coefficient", desk.coefficient(4, 0, Math.max(i - 1, 0)), i == 0 ? 0 : 1);
        }
        for (int none : new int[] {-1, 14, 15, LEAST, GREATEST}) {
            Due.bad("pick(" + none + ")", desk.pick(4, none));
        }
        Due.hold(desk, 4, "x^12");
        for (int none : NO_REGISTERS) {
            Due.bad("pick into " + none, desk.pick(none, 0));
        }
        Due.be("solve", desk.solve(1, 2, 12), 0);
        Due.be("pick(0)", desk.pick(3, 0), 13);
        Due.hold(desk, 3, "x^12");
        Due.bad("pick(1)", desk.pick(3, 1));
        Due.be("solve", desk.solve(1, 0, 12), 0);
        Due.be("pick(0)", desk.pick(3, 0), 0);
        Due.be("order behind pick of 0", desk.order(3), -1);
        Due.bad("pick(1)", desk.pick(3, 1));
        for (int register = 0; register < 8; register++) {
            desk.solve(0, 0, 0);
            Due.be("pick into " + register, desk.pick(7 - register, 1), 1);
            Due.hold(desk, 7 - register, "1");
        }
    }

    private static void pickOfLastSolve(int kind) {
        Due.sentence("pick: found by the last solve() that answered a dimension");
        Desk desk = new Desk(kind, "0", "1", "x^5", "T");
        Due.be("solve", desk.solve(0, 0, 4), 5);
        Due.be("solve without solutions", desk.solve(0, 1, 12), NONE);
        Due.be("pick", desk.pick(7, 5), 5);
        Due.bad("pick", desk.pick(7, 6));
        Due.be("solve that is refused", desk.solve(0, 3, 12), ORDER);
        Due.be("pick", desk.pick(7, 5), 5);
        Due.be("solve that is refused", desk.solve(0, 0, 13), BAD);
        Due.be("solve that is refused", desk.solve(8, 0, 12), BAD);
        Due.be("pick", desk.pick(7, 4), 4);
        Due.hold(desk, 7, "x^3");
        // the registers may change meanwhile
        desk.put(0, "T^2+x");
        Due.be("pick", desk.pick(7, 3), 3);
        Due.hold(desk, 7, "x^2");
        Due.be("pick of the particular one", desk.pick(7, 0), 0);
        Due.be("solve with the dimension 0", desk.solve(1, 2, 12), 0);
        Due.be("pick of the particular one", desk.pick(7, 0), 6);
        Due.hold(desk, 7, "x^5");
        Due.bad("pick of what was found before", desk.pick(7, 1));
        Due.be("solve without solutions", desk.solve(1, 2, 4), NONE);
        Due.be("pick of the particular one", desk.pick(7, 0), 6);
        Due.be("factor", desk.factor(3), 1);
        Due.be("pick of the particular one", desk.pick(7, 0), 6);
    }

    private static void factorOfNothing(int kind) {
        Due.sentence("factor: ORDER if it is the polynomial 0.");
        Desk desk = new Desk(kind, "0", "T-T", "1", "x^9x^3", "30");
        Due.be("factor of 0", desk.factor(0), ORDER);
        Due.be("factor of T-T", desk.factor(1), ORDER);
        Due.be("factor of 1", desk.factor(2), 0);
        Due.be("factor of x^12", desk.factor(3), 0);
        Due.be("factor of 30", desk.factor(4), 0);
        Due.be("factor of a new register", desk.factor(7), ORDER);
        for (int none : NO_REGISTERS) {
            Due.bad("factor(" + none + ")", desk.factor(none));
        }
    }

    private static void factorCounts(int kind) {
        Due.sentence("factor: Finds all pairs of numbers c and e. Answers how many there are.");
        dueLines(kind, "T", 0);
        dueLines(kind, "x^9x^3T^4", 0);
        dueLines(kind, "T-1", 1);
        dueLines(kind, "T-30", 30);
        dueLines(kind, "T-x", 31);
        dueLines(kind, "T-30x", 930);
        dueLines(kind, "T-30x-30", 960);
        dueLines(kind, "5x^3(T-30x-30)", 960);
        dueLines(kind, "T-x^2");
        dueLines(kind, "xT-x^2", 31);
        dueLines(kind, "xT-1");
        dueLines(kind, "T^2-1", 1, 30);
        dueLines(kind, "T^2-3");
        dueLines(kind, "(T-1)(T-2)(T-3)(T-4)", 1, 2, 3, 4);
        dueLines(kind, "T(T-29)(T-30)", 0, 29, 30);
        dueLines(kind, "(T-x)(T-30x-30)", 960);
        dueLines(kind, "x^9x^3T^4-x^9x^3", 1, 30);
        dueLines(kind, "x^9x^2T^3(T-3x-5)", 0, 98);
        // made for e = 1 and for c = 1: which comes first is not the same by e
        dueLines(kind, kind == SHIFT ? "(x-1)T^2-(x^2+x-1)T+x^2" : "(x-1)T^2-x^2T+x^2-x+1", 1, 31);
        if (kind == SHIFT) {
            dueLines(kind, "T^4-x(x+1)(x+2)(x+3)", 31, 930);
            dueLines(kind, "(T-x-1)(T-x)", 31, 32);
        } else {
            dueLines(kind, "T^2-x^2-1", 31);
            dueLines(kind, "T^2-x^2+1", 930);
        }
    }

    private static void dueLines(int kind, String text, int... pairs) {
        Desk desk = new Desk(kind, text);
        Due.be("factor of " + text, desk.factor(0), pairs.length);
        for (int i = 0; i < pairs.length; i++) {
            Due.be("line(" + i + ") of " + text, desk.line(i), pairs[i]);
            desk.put(1, "T-" + pairs[i] / 31 + "x-" + pairs[i] % 31);
            Due.be("divide " + text, desk.divide(2, 3, 0, 1), 0);
            Due.be("order of the rest", desk.order(3), -1);
        }
        Due.bad("line behind the last of " + text, desk.line(pairs.length));
        Due.bad("line(-1) of " + text, desk.line(-1));
    }

    private static void lineIndices(int kind) {
        Due.sentence("line: Pair i, by ascending 31 c + e, as 31 c + e; BAD if there is none such.");
        Desk desk = new Desk(kind, "(T-30)(T-1)(T-15)", "x");
        Due.bad("line(0) at first", desk.line(0));
        Due.be("factor", desk.factor(0), 3);
        Due.be("line(0)", desk.line(0), 1);
        Due.be("line(1)", desk.line(1), 15);
        Due.be("line(2)", desk.line(2), 30);
        for (int none : new int[] {-1, 3, 4, 960, 961, LEAST, GREATEST}) {
            Due.bad("line(" + none + ")", desk.line(none));
        }
        Due.be("factor", desk.factor(1), 0);
        for (int none : new int[] {-1, 0, 1, 2, 3}) {
            Due.bad("line(" + none + ")", desk.line(none));
        }
    }

    private static void lineOfLastFactor(int kind) {
        Due.sentence("line: found by the last factor() that answered a number");
        Desk desk = new Desk(kind, "T^2-1", "0", "x", "T-30x-30");
        Due.be("factor", desk.factor(0), 2);
        Due.be("factor that is refused", desk.factor(1), ORDER);
        Due.be("line(0)", desk.line(0), 1);
        Due.be("line(1)", desk.line(1), 30);
        Due.bad("line(2)", desk.line(2));
        Due.be("factor that is refused", desk.factor(8), BAD);
        Due.be("factor that is refused", desk.factor(-1), BAD);
        Due.be("line(1)", desk.line(1), 30);
        // the register may change meanwhile
        desk.put(0, "T");
        Due.be("line(1)", desk.line(1), 30);
        Due.be("solve", desk.solve(0, 1, 12), kind == SHIFT ? 0 : 1);
        Due.be("line(1)", desk.line(1), 30);
        Due.be("factor", desk.factor(3), 1);
        Due.be("line(0)", desk.line(0), 960);
        Due.bad("line of what was found before", desk.line(1));
        Due.be("factor without pairs", desk.factor(2), 0);
        Due.bad("line of what was found before", desk.line(0));
        Due.be("factor that is refused", desk.factor(1), ORDER);
        Due.bad("line(0)", desk.line(0));
    }

    private static void sameRegisters(int kind) {
        Due.sentence("same: Whether the registers a and b hold the same operator; false if there is no such register.");
        Desk desk = new Desk(kind, "x^9x^3T^4+1", "x^9x^3T^4+2", "2x^9x^3T^4+1", "0", "31", "x", "T", "x^9x^3T^4+32");
        for (int a = 0; a < 8; a++) {
            for (int b = 0; b < 8; b++) {
                boolean alike = a == b || a + b == 7 && (a == 0 || a == 3 || a == 4 || a == 7);
                Due.be("same(" + a + ", " + b + ")", desk.same(a, b), alike);
            }
        }
        for (int none : NO_REGISTERS) {
            Due.be("same(" + none + ", 0)", desk.same(none, 0), false);
            Due.be("same(3, " + none + ")", desk.same(3, none), false);
            Due.be("same(" + none + ", " + none + ")", desk.same(none, none), false);
        }
        Due.be("same(-1, 8)", desk.same(-1, 8), false);
        // each of the greatest and least places counts
        for (String text : new String[] {"1", "x^9x^3", "T^4", "x^9x^3T^4", "xT", "x^6T^2"}) {
            desk = new Desk(kind, text, "2" + text);
            Due.be("same with " + text, desk.same(0, 1), false);
            Due.be("same with 0 and " + text, desk.same(0, 7), false);
            Due.be("same with " + text + " and 0", desk.same(7, 0), false);
        }
    }

    private static void showNothing(int kind) {
        Due.sentence("show: 0 for the polynomial 0");
        Desk desk = new Desk(kind, "T", "0", "31x");
        Due.be("show of 0", desk.show(1), 1);
        Due.be("at(0)", desk.at(0), '0');
        Due.bad("at(1)", desk.at(1));
        desk.show(0);
        Due.be("show of 31x", desk.show(2), 1);
        Due.be("at(0)", desk.at(0), '0');
        Due.be("show of a new register", desk.show(7), 1);
        Due.be("at(0)", desk.at(0), '0');
        Due.bad("at(1)", desk.at(1));
    }

    private static void showTerms(int kind) {
        Due.sentence("show: A term is c, unless that is 1 and there is something behind it; "
            + "then x, or x^k with k as a number, unless k is 0; then T, or T^i, unless i is 0.");
        String[][] texts = {
            {"1", "1"}, {"2", "2"}, {"9", "9"}, {"10", "10"}, {"30", "30"},
            {"x", "x"}, {"2x", "2x"}, {"30x", "30x"}, {"x^2", "x^2"}, {"11x^2", "11x^2"}, {"x^9", "x^9"},
            {"x^9x", "x^10"}, {"x^9x^2", "x^11"}, {"x^9x^3", "x^12"}, {"20x^9x^3", "20x^12"},
            {"T", "T"}, {"2T", "2T"}, {"T^2", "T^2"}, {"T^3", "T^3"}, {"T^4", "T^4"}, {"10T^4", "10T^4"},
            {"xT", "xT"}, {"2xT", "2xT"}, {"x^2T", "x^2T"}, {"xT^2", "xT^2"}, {"30x^9x^3T^4", "30x^12T^4"},
            {"1+x+T+xT", "xT+T+x+1"}, {"T+T^2+x^2+x^3", "T^2+T+x^3+x^2"}, {"-x-1", "30x+30"}, {"x-x+T", "T"},
            {"x^9x^3+T", "T+x^12"}, {"1+x^9x^3T^4", "x^12T^4+1"}, {"x^3T+xT+x^2T+T", "x^3T+x^2T+xT+T"},
        };
        for (String[] row : texts) {
            Desk desk = new Desk(kind, row[0]);
            Due.be("length", desk.show(0), row[1].length());
            Due.hold(desk, 0, row[1]);
        }
    }

    private static void showInPlace(int kind) {
        Due.sentence("show: Writes the operator in a register into the output, in place of what is there. "
            + "Answers the length.");
        Desk desk = new Desk(kind, "30x^9x^3T^4+29x", "7", "xT");
        Due.be("show", desk.show(0), 13);
        Due.be("at(12)", desk.at(12), 'x');
        Due.bad("at(13)", desk.at(13));
        Due.be("show of what is shorter", desk.show(1), 1);
        Due.be("at(0)", desk.at(0), '7');
        Due.bad("at(1)", desk.at(1));
        Due.bad("at(12)", desk.at(12));
        Due.be("show of what is longer", desk.show(2), 2);
        Due.be("at(0)", desk.at(0), 'x');
        Due.be("at(1)", desk.at(1), 'T');
        Due.bad("at(2)", desk.at(2));
        // the output is what was shown, not what the register holds later
        desk.put(2, "5");
        Due.be("at(0)", desk.at(0), 'x');
        Due.be("at(1)", desk.at(1), 'T');
        longestOutput(kind);
    }

    /** 65 terms, each as long as it can be. */
    private static void longestOutput(int kind) {
        Desk desk = new Desk(kind, "x^5", "30x^4+30x^3+30x^2+30x+30");
        desk.multiply(3, 0, 1);
        desk.put(5, "30x^9x^3T^4+30x^9x^3T^3+30x^9x^3T^2");
        desk.put(6, "30x^9x^3T+30x^9x^3");
        desk.add(5, 5, 6, 1);
        desk.put(6, "30x^9x^2+30x^9x");
        desk.add(7, 1, 3, 1);
        desk.add(7, 7, 6, 1);
        desk.put(6, "T^4+T^3+T^2+T+1");
        desk.multiply(7, 7, 6);
        desk.add(7, 7, 5, 1);
        Due.be("show of 65 terms", desk.show(7), 509);
        String end = "x+30";
        for (int i = 0; i < 4; i++) {
            Due.be("at(" + (505 + i) + ")", desk.at(505 + i), end.charAt(i));
        }
        Due.bad("at(509)", desk.at(509));
        String start = "30x^12T^4+30x^11T^4";
        for (int i = 0; i < start.length(); i++) {
            Due.be("at(" + i + ")", desk.at(i), start.charAt(i));
        }
    }

    private static void showRegisters(int kind) {
        Due.sentence("show: BAD when a register is not as said; a call that answers less than 0 changes nothing");
        Desk desk = new Desk(kind, "x", "T^2");
        for (int none : NO_REGISTERS) {
            Due.bad("show(" + none + ")", desk.show(none));
            Due.bad("at(0)", desk.at(0));
        }
        Due.be("show", desk.show(1), 3);
        for (int none : NO_REGISTERS) {
            Due.bad("show(" + none + ")", desk.show(none));
            Due.be("at(2)", desk.at(2), '2');
            Due.bad("at(3)", desk.at(3));
        }
    }

    private static void atAtFirst(int kind) {
        Due.sentence("at: the output (empty at first)");
        Desk desk = new Desk(kind);
        for (int i : new int[] {0, 1, -1, 508, 509, 649, 650, LEAST, GREATEST}) {
            Due.bad("at(" + i + ") at first", desk.at(i));
        }
        desk = new Desk(kind, "T+x");
        Due.bad("at(0) behind read", desk.at(0));
        desk.solve(0, 7, 12);
        desk.factor(0);
        Due.bad("at(0) behind solve and factor", desk.at(0));
    }

    private static void atIndices(int kind) {
        Due.sentence("at: The code of character i of the output; BAD if there is none.");
        Desk desk = new Desk(kind, "2x^9x^3T^4+1");
        String want = "2x^12T^4+1";
        Due.be("show", desk.show(0), want.length());
        for (int i = 0; i < want.length(); i++) {
            Due.be("at(" + i + ")", desk.at(i), want.charAt(i));
        }
        for (int none : new int[] {-1, 10, 11, 40, 509, 650, 65536, LEAST, GREATEST}) {
            Due.bad("at(" + none + ")", desk.at(none));
        }
    }
}
