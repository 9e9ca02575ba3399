import java.math.BigInteger;

/**
 * Every sentence under 'What it is' and 'Terms' that names a boundary, in the document's order, with a test of its own:
 * what is just inside it, and what is just outside. What is said of refusals there stands in RefusalTest.
 */
public final class TermsBoundaryTest {
    private static final int SHIFT = Desk.SHIFT;
    private static final int DERIVATIVE = Desk.DERIVATIVE;
    private static final int BAD = OreSolver.BAD;
    private static final int SYNTAX = OreSolver.SYNTAX;
    private static final int LARGE = OreSolver.LARGE;
    private static final int NONE = OreSolver.NONE;
    private static final int ORDER = OreSolver.ORDER;
    private static final int[] NO_REGISTERS = Desk.NO_REGISTERS;
    /** The coefficients of (x + 1)^12. */
    private static final int[] BINOMIALS = {1, 12, 66, 220, 495, 792, 924, 792, 495, 220, 66, 12, 1};

    public static void main(String[] args) {
        for (int kind : Desk.KINDS) {
            lastCall(kind);
            modulo(kind);
            degreeOfNothing(kind);
            orderOfNothing(kind);
            polynomials(kind);
            timesApplied(kind);
            registersAtFirst(kind);
            greatestOrder(kind);
            greatestDegree(kind);
            justTheResult(kind);
            readsFirst(kind);
            textLimit(kind);
            sums(kind);
            products(kind);
            powers(kind);
            atoms(kind);
            brackets(kind);
            blanks(kind);
            exponents(kind);
            fromTheLeft(kind);
            atMostDegree(kind);
            basis(kind);
            dimension(kind);
            particular(kind);
        }
        Due.end();
    }

    private static void lastCall(int kind) {
        Due.sentence("An object is used for at most 512 calls after it has been made");
        Desk desk = useUp(new Desk(kind, "T^4+x"), 1);
        Due.be("call 512, order", desk.order(0), 4);
        desk = useUp(new Desk(kind, "T^4+x"), 1);
        Due.be("call 512, show", desk.show(0), 5);
        desk = useUp(new Desk(kind, "T^2", "x"), 1);
        Due.be("call 512, multiply", desk.multiply(2, 0, 1), 0);
        desk = useUp(new Desk(kind, "T^2", "x"), 2);
        Due.be("call 511, multiply", desk.multiply(2, 0, 1), 0);
        Due.be("call 512, coefficient", desk.coefficient(2, 2, 1), 1);
        desk = useUp(new Desk(kind, "0"), 2);
        Due.be("call 511, solve", desk.solve(0, 0, 12), 13);
        Due.be("call 512, pick", desk.pick(0, 13), 13);
        desk = useUp(new Desk(kind, "T-30x-30"), 2);
        Due.be("call 511, factor", desk.factor(0), 1);
        Due.be("call 512, line", desk.line(0), 960);
        desk = new Desk(kind);
        for (int n = 0; n < 512; n++) {
            Due.be("call " + (n + 1) + ", type", desk.type('x'), n < 40);
        }
        desk = new Desk(kind);
        for (int n = 0; n < 256; n++) {
            Due.be("call " + (2 * n + 1) + ", type", desk.type('x'), true);
            Due.be("call " + (2 * n + 2) + ", clear", desk.clear(), 1);
        }
    }

    private static Desk useUp(Desk desk, int left) {
        int calls = desk.callsLeft() - left;
        for (int n = 0; n < calls; n++) {
            Due.be("same", desk.same(0, 0), true);
        }
        return desk;
    }

    private static void modulo(int kind) {
        Due.sentence("All numbers are reckoned modulo 31: they are 0 .. 30.");
        Due.read(kind, "30", "30");
        Due.read(kind, "31", "0");
        Due.read(kind, "32", "1");
        Due.read(kind, "30+1", "0");
        Due.read(kind, "30+2", "1");
        Due.read(kind, "0-1", "30");
        Due.read(kind, "1-32", "0");
        Due.read(kind, "30*30", "1");
        Due.read(kind, "-30*30", "30");
        Due.read(kind, "2^5", "1");
        Due.read(kind, "30^9", "30");
        Desk desk = new Desk(kind, "30x^2T+30", "30", "31x", "x");
        desk.add(4, 0, 0, 30);
        Due.hold(desk, 4, "0");
        desk.add(4, 0, 0, 29);
        Due.hold(desk, 4, "x^2T+1");
        desk.multiply(4, 0, 1);
        Due.hold(desk, 4, "x^2T+1");
        desk.multiply(4, 1, 1);
        Due.hold(desk, 4, "1");
        Due.be("order of 31x", desk.order(2), -1);
        for (int number = 1; number < 31; number++) {
            int inverse = BigInteger.valueOf(number).modInverse(BigInteger.valueOf(31)).intValue();
            desk.add(4, 2, 3, number);
            desk.add(4, 2, 4, inverse);
            Due.be(number + " times " + inverse, desk.same(4, 3), true);
        }
        desk = new Desk(kind, "T", "x^9x^3", "T^4");
        desk.apply(3, 0, 1);
        for (int k = 0; k <= 12; k++) {
            int want = kind == SHIFT ? BINOMIALS[k] % 31 : k == 11 ? 12 : 0;
            Due.be("T x^12 at x^" + k, desk.coefficient(3, 0, k), want);
        }
        desk.apply(3, 2, 1);
        Due.be("T^4 x^12 at x^8", desk.coefficient(3, 0, 8), (kind == SHIFT ? 495 * 256 : 12 * 11 * 10 * 9) % 31);
    }

    private static void degreeOfNothing(int kind) {
        Due.sentence("its DEGREE is the greatest k for which that of x^k is not 0, and -1 if there is none");
        Desk desk = new Desk(kind, "1", "0", "5", "3x^9x^3-1", "x");
        Due.be("solve f = 0", desk.solve(0, 1, 12), 0);
        Due.be("pick of 0", desk.pick(7, 0), 0);
        desk.solve(0, 2, 12);
        Due.be("pick of 5", desk.pick(7, 0), 1);
        desk.solve(0, 4, 12);
        Due.be("pick of x", desk.pick(7, 0), 2);
        desk.solve(0, 3, 12);
        Due.be("pick of 3x^12-1", desk.pick(7, 0), 13);
    }

    private static void orderOfNothing(int kind) {
        Due.sentence("its ORDER is the greatest i for which the coefficient of T^i is not 0, and -1 if there is none");
        Desk desk = new Desk(kind, "0", "T^4-T^4", "7", "x^9x^3", "T", "x^3T^4", "T^4+x", "31T^4+T^2");
        int[] orders = {-1, -1, 0, 0, 1, 4, 4, 2};
        for (int register = 0; register < 8; register++) {
            Due.be("order(" + register + ")", desk.order(register), orders[register]);
        }
        desk.add(6, 6, 5, 30);
        Due.be("order of (1-x^3)T^4+x", desk.order(6), 4);
        desk.put(5, "T^4");
        desk.put(6, "T^4+x");
        desk.add(6, 6, 5, 30);
        Due.be("order of x", desk.order(6), 0);
        desk.add(6, 6, 6, 30);
        Due.be("order of x-x", desk.order(6), -1);
    }

    private static void polynomials(int kind) {
        Due.sentence("A polynomial is an operator with no other coefficient than that of T^0 "
            + "(so the order is 0, or -1).");
        Desk desk = new Desk(kind, "x^3", "0", "T", "2", "T^4+1");
        Due.be("apply to x^3", desk.apply(7, 3, 0), 0);
        Due.hold(desk, 7, "2x^3");
        Due.be("apply to 0", desk.apply(7, 3, 1), 0);
        Due.hold(desk, 7, "0");
        Due.be("apply to T", desk.apply(7, 3, 2), ORDER);
        Due.be("apply to T^4+1", desk.apply(7, 3, 4), ORDER);
        Due.be("solve for x^3", desk.solve(3, 0, 12), 0);
        Due.be("solve for 0", desk.solve(3, 1, 12), 0);
        Due.be("solve for T", desk.solve(3, 2, 12), ORDER);
        Due.be("solve for T^4+1", desk.solve(3, 4, 12), ORDER);
        Due.be("over x^3", desk.over(7, 3, 0), 0);
        Due.be("over T", desk.over(7, 3, 2), ORDER);
        Due.be("over T^4+1", desk.over(7, 3, 4), ORDER);
    }

    private static void timesApplied(int kind) {
        Due.sentence("T^i f is T applied i times");
        Desk desk = new Desk(kind, "x^3", "T", "T^0", "T^3", "T^4", "7");
        desk.apply(7, 2, 0);
        Due.hold(desk, 7, "x^3");
        desk.apply(7, 1, 0);
        Due.hold(desk, 7, kind == SHIFT ? "x^3+3x^2+3x+1" : "3x^2");
        desk.apply(7, 3, 0);
        Due.hold(desk, 7, kind == SHIFT ? "x^3+9x^2+27x+27" : "6");
        desk.apply(7, 4, 0);
        Due.hold(desk, 7, kind == SHIFT ? "x^3+12x^2+17x+2" : "0");
        desk.apply(7, 1, 5);
        Due.hold(desk, 7, kind == SHIFT ? "7" : "0");
        for (int n = 0; n < 31; n++) {
            desk.apply(0, 1, 0);
        }
        Due.hold(desk, 0, kind == SHIFT ? "x^3" : "0");
    }

    private static void registersAtFirst(int kind) {
        Due.sentence("There are REGISTERS 0 .. 7, each of which holds an operator, at first the polynomial 0.");
        Desk desk = new Desk(kind);
        for (int register = 0; register < 8; register++) {
            Due.be("order(" + register + ") at first", desk.order(register), -1);
            Due.hold(desk, register, "0");
        }
        for (int register = 0; register < 8; register++) {
            Due.be("read", desk.put(register, "T^2+" + register + "x"), 3);
        }
        for (int register = 0; register < 8; register++) {
            Due.be("coefficient", desk.coefficient(register, 0, 1), register);
            Due.be("coefficient", desk.coefficient(register, 2, 0), 1);
        }
        for (int none : NO_REGISTERS) {
            Due.be("order(" + none + ")", desk.order(none), -2);
        }
    }

    private static void greatestOrder(int kind) {
        Due.sentence("Operators in registers have an order of at most 4: a call whose result has more answers LARGE");
        Desk desk = new Desk(kind, "T", "T^2", "T^3", "T^4", "7");
        Due.be("read of T^4", desk.put(7, "T^4"), 5);
        Due.be("read of T^5", desk.put(7, "T^5"), LARGE);
        Due.hold(desk, 7, "T^4");
        int[][] orders = {{0, 2, 0}, {2, 0, 0}, {1, 1, 0}, {3, 4, 0}, {4, 3, 0}, {1, 2, LARGE}, {2, 1, LARGE},
            {0, 3, LARGE}, {3, 0, LARGE}, {3, 3, LARGE}};
        for (int[] row : orders) {
            Due.be("multiply", desk.multiply(6, row[0], row[1]), row[2]);
            Due.be("order of the product", desk.order(6), 4);
        }
        Due.be("divide", desk.divide(5, 6, 3, 4), 0);
        Due.be("order of the quotient", desk.order(5), 4);
        Due.be("over", desk.over(5, 3, 4), 4);
    }

    private static void greatestDegree(int kind) {
        Due.sentence("Operators in registers have coefficients of degrees of at most 12: "
            + "a call whose result has more answers LARGE");
        Desk desk = new Desk(kind, "x^9x^3", "x", "x^6", "x^7", "x^9x^3T^4", "T+x^6", "T+x^7", "T^2");
        Due.be("read of degree 12", desk.put(0, "x^9x^3"), 1);
        Due.be("read of degree 13", desk.put(0, "x^9x^4"), LARGE);
        Due.be("read of degree 12", desk.put(4, "x^9x^3T^4"), 5);
        Due.be("read of degree 13", desk.put(4, "x^9x^4T^4"), LARGE);
        Due.be("multiply to degree 12", desk.multiply(0, 2, 2), 0);
        Due.be("multiply to degree 13", desk.multiply(0, 2, 3), LARGE);
        Due.be("multiply to degree 13", desk.multiply(0, 1, 4), LARGE);
        Due.be("multiply to degree 13", desk.multiply(0, 4, 1), LARGE);
        Due.be("apply to degree 12", desk.apply(0, 2, 2), 0);
        Due.be("apply to degree 13", desk.apply(0, 2, 3), LARGE);
        Due.hold(desk, 0, "x^12");
        Due.be("divide to degree 12", desk.divide(0, 1, 7, 5), 0);
        Due.be("coefficient of the rest", desk.coefficient(1, 0, 12), 1);
        Due.be("divide to degree 14", desk.divide(0, 1, 7, 6), LARGE);
        Due.be("over to degree 12", desk.over(0, 7, 2), 2);
        Due.be("coefficient", desk.coefficient(0, 2, 12), 1);
        Due.be("over to degree 14", desk.over(0, 7, 3), LARGE);
        Due.be("coefficient", desk.coefficient(0, 2, 12), 1);
    }

    private static void justTheResult(int kind) {
        Due.sentence("(just the result, not what comes on the way to it)");
        String cancels = kind == SHIFT ? "x(x-1)(T-1)-2x+1" : "x^2T-2x";
        Desk desk = new Desk(kind, "x^9x^3T-x^9x^3", "5", "x^9x^3", cancels, "x^2", "0");
        if (kind == SHIFT) {
            Due.be("apply x^12 T - x^12 to 5", desk.apply(7, 0, 1), 0);
            Due.hold(desk, 7, "0");
        } else {
            desk.put(6, "x^2T-12x");
            Due.be("apply x^2 T - 12 x to x^12", desk.apply(7, 6, 2), 0);
            Due.hold(desk, 7, "0");
            desk.put(6, "x^3T^2-11x^2T+x");
            Due.be("apply x^3 T^2 - 11 x^2 T + x to x^12", desk.apply(7, 6, 2), LARGE);
            desk.put(6, "x^3T^2-11x^2T");
            Due.be("apply x^3 T^2 - 11 x^2 T to x^12", desk.apply(7, 6, 2), 0);
        }
        desk.put(0, "x^9x^2T-x^9x^2");
        desk.put(1, "x^2+x");
        // for SHIFT x^2 and x of the two terms go away, and 2 x^11 (x + 1) is left
        Due.be("apply with x^13 on the way", desk.apply(7, 0, 1), kind == SHIFT ? 0 : LARGE);
        Due.be("over x^12 of x^12", desk.over(7, 2, 2), 0);
        Due.hold(desk, 7, "x^12");
        desk.put(6, "T^4");
        desk.put(7, "x^3");
        Due.be("over x^3 of T^4", desk.over(7, 6, 7), 4);
        Due.be("coefficient", desk.coefficient(7, 4, 12), 1);
        Due.be("solve with images of degree 24", desk.solve(2, 5, 12), 0);
    }

    private static void readsFirst(int kind) {
        Due.sentence("A call that writes a register reads first, so registers may be the same.");
        String[] texts = {"T^2+x", "3T+x^2", "x^3+2"};
        sameAsApart(kind, texts, (d, to) -> d.add(to, 0, 1, 7));
        sameAsApart(kind, texts, (d, to) -> d.add(to, 1, 1, 7));
        sameAsApart(kind, texts, (d, to) -> d.multiply(to, 0, 1));
        sameAsApart(kind, texts, (d, to) -> d.multiply(to, 1, 0));
        sameAsApart(kind, texts, (d, to) -> d.multiply(to, 1, 1));
        sameAsApart(kind, texts, (d, to) -> d.apply(to, 0, 2));
        sameAsApart(kind, texts, (d, to) -> d.apply(to, 2, 2));
        sameAsApart(kind, texts, (d, to) -> d.over(to, 0, 2));
        sameAsApart(kind, texts, (d, to) -> d.over(to, 2, 2));
        for (int quotient = 0; quotient < 4; quotient++) {
            for (int rest = 0; rest < 4; rest++) {
                if (quotient != rest) {
                    divideInPlace(kind, quotient, rest);
                }
            }
        }
    }

    private interface Writing {
        int into(Desk desk, int to);
    }

    private static void sameAsApart(int kind, String[] texts, Writing call) {
        for (int to = 0; to < 3; to++) {
            Desk desk = new Desk(kind, texts);
            int answer = call.into(desk, 7);
            Due.be("the call apart", answer >= 0, true);
            Due.be("the call in place", call.into(desk, to), answer);
            Due.be("the result in place", desk.same(7, to), true);
            Due.be("the result is 0", desk.order(to) < 0, false);
            for (int other = 0; other < 3; other++) {
                if (other != to) {
                    desk.put(6, texts[other]);
                    Due.be("register " + other + " as before", desk.same(6, other), true);
                }
            }
        }
    }

    private static void divideInPlace(int kind, int quotient, int rest) {
        Desk desk = new Desk(kind, "T^3+x", "3T+x^2");
        desk.put(4, "T^3+x");
        desk.put(5, "3T+x^2");
        Due.be("divide in place", desk.divide(quotient, rest, 0, 1), 0);
        desk.multiply(6, quotient, 5);
        desk.add(6, 6, rest, 1);
        Due.be("Q B + R", desk.same(6, 4), true);
        Due.be("order of Q", desk.order(quotient), 2);
        Due.be("order of R", desk.order(rest), 0);
    }

    private static void textLimit(int kind) {
        Due.sentence("THE TEXT has at most 40 characters, empty at first.");
        Desk desk = new Desk(kind);
        Due.be("clear at first", desk.clear(), 0);
        desk = new Desk(kind);
        Due.be("read at first", desk.read(0), SYNTAX);
        for (int n = 1; n <= 40; n++) {
            Due.be("character " + n, desk.type(n == 40 ? '7' : '0'), true);
        }
        Due.be("character 41", desk.type('5'), false);
        Due.be("read of 40 characters", desk.read(0), 1);
        Due.hold(desk, 0, "7");
        Due.be("clear", desk.clear(), 40);
    }

    private static void sums(int kind) {
        Due.sentence("a SUM is one or more products, with + or - before each, "
            + "which may be left out before the first one");
        Due.read(kind, "5", "5");
        Due.read(kind, "+5", "5");
        Due.read(kind, "-5", "26");
        Due.read(kind, "5+T", "T+5");
        Due.read(kind, "-5-T", "30T+26");
        Due.read(kind, "+5+T", "T+5");
        Due.read(kind, "(-5)", "26");
        Due.read(kind, "(+5)", "5");
        Due.read(kind, "-(-5)", "5");
        Due.read(kind, "1+1+1+1+1+1+1+1+1+1+1+1+1+1+1+1+1+1+1+1", "20");
        Due.read(kind, "-1-1-1-1-1-1-1-1-1-1-1-1-1-1-1-1-1-1-1-1", "11");
        Due.refuse(kind, SYNTAX, "", "+", "-", "++5", "--5", "+-5", "-+5", "5+", "5-", "5++5", "5--5", "5+-5", "5-+5",
            "()", "(+)", "(-)", "(5+)", "(5-)", "(--5)", "(5++5)", "5+()", "5+-(5)");
    }

    private static void products(int kind) {
        Due.sentence("a PRODUCT is one or more powers, with * between, or nothing (2xT is 2*x*T)");
        Due.read(kind, "2xT", "2xT");
        Due.read(kind, "2*x*T", "2xT");
        Due.read(kind, "2x*T", "2xT");
        Due.read(kind, "2*xT", "2xT");
        Due.read(kind, "2(x)T", "2xT");
        Due.read(kind, "(2)*(x)*(T)", "2xT");
        Due.read(kind, "x2T", "2xT");
        Due.read(kind, "x^12T", "2xT");
        Due.read(kind, "x^1*2T", "2xT");
        Due.read(kind, "1".repeat(37) + "xT2", number("1".repeat(37), 2) + "xT");
        Due.read(kind, "1*1*1*1*1*1*1*1*1*1*1*1*1*1*1*1*1*1*1*2", "2");
        Due.refuse(kind, SYNTAX, "*", "*2", "2*", "2**x", "2*+x", "2*-x", "2+*x", "2-*x", "(*2)", "(2*)", "2*(", "(2)*",
            "2*()", "x^2*", "2.x", "2/x", "2,x", "2_x");
    }

    private static String number(String digits, int times) {
        return new BigInteger(digits).multiply(BigInteger.valueOf(times)).mod(BigInteger.valueOf(31)).toString();
    }

    private static void powers(int kind) {
        Due.sentence("a POWER is an atom, perhaps with ^ and one digit 0 .. 9 behind it");
        Due.read(kind, "x", "x");
        Due.read(kind, "x^0", "1");
        Due.read(kind, "x^1", "x");
        Due.read(kind, "x^9", "x^9");
        Due.read(kind, "(x)^9", "x^9");
        Due.read(kind, "2^9", "16");
        Due.read(kind, "12^2", "20");
        // one digit is the exponent, and what stands behind it is the next power
        Due.read(kind, "x^10", "0");
        Due.read(kind, "x^12", "2x");
        Due.read(kind, "x^2x^3", "x^5");
        Due.refuse(kind, SYNTAX, "^", "^2", "x^", "x^+", "x^+2", "x^-1", "x^x", "x^T", "x^(2)", "x^*2", "x^^2", "x^2^2",
            "x^1^1", "x^0^", "(x)^", "(x^)", "(x)^(2)", "2^", "+^2", "(^2)", "x^:", "x^/", "x^.");
    }

    private static void atoms(int kind) {
        Due.sentence("an ATOM is a number (one or more digits, as many as stand there, reckoned modulo 31), "
            + "x, T, or a sum in brackets ( )");
        Due.read(kind, "0", "0");
        Due.read(kind, "9", "9");
        Due.read(kind, "10", "10");
        Due.read(kind, "310", "0");
        Due.read(kind, "0000000000000000000000000000000000000031", "0");
        Due.read(kind, "0000000000000000000000000000000000000032", "1");
        Due.read(kind, "2147483647", number("2147483647", 1));
        Due.read(kind, "2147483648", number("2147483648", 1));
        Due.read(kind, "4294967296", number("4294967296", 1));
        Due.read(kind, "9223372036854775808", number("9223372036854775808", 1));
        Due.read(kind, "18446744073709551617", number("18446744073709551617", 1));
        Due.read(kind, "9".repeat(40), number("9".repeat(40), 1));
        Due.read(kind, "x", "x");
        Due.read(kind, "T", "T");
        Due.read(kind, "(T)", "T");
        Due.read(kind, "(x+T)", "T+x");
        for (char c = 33; c <= 126; c++) {
            boolean atom = c >= '0' && c <= '9' || c == 'x' || c == 'T';
            Desk desk = new Desk(kind);
            desk.type(c);
            Due.be("read of " + c, desk.read(0), !atom ? SYNTAX : c == 'T' ? 2 : c == '0' ? 0 : 1);
        }
        Due.refuse(kind, SYNTAX, "X", "t", "y", "(x", "x)", ")x(", "(x]", "[x]", "{x}", "(x))", "((x)", "x(", "()x",
            ":", "/", "xy");
    }

    private static void brackets(int kind) {
        Due.sentence("brackets ( ), at most 4 of which are open at any place");
        Due.read(kind, "(((x)))", "x");
        Due.read(kind, "((((x))))", "x");
        Due.read(kind, "((((x))))((((T))))+((((2))))", "xT+2");
        Due.read(kind, "((((x)+1)+1)+1)(((1+(1))))", "2x+6");
        Due.read(kind, "(x)(x)(x)(x)(x)(x)", "x^6");
        Due.read(kind, "(1+(1+(1+(1+x)^1)^1)^1)^1", "x+4");
        Due.refuse(kind, SYNTAX, "(((((x)))))", "((((((x))))))", "1+(((((x)))))", "((((x)))(((((x)))))", "((((x(1)))))",
            "(1+(1+(1+(1+(1+x)))))", "((((()))))", "(((((", "((((x)))", "((((x)))))", "(((((x))))",
            "((((1))))(((((1)))))");
    }

    private static void blanks(int kind) {
        Due.sentence("Blanks may not stand anywhere.");
        Desk desk = new Desk(kind);
        Due.be("type of a blank", desk.type(' '), false);
        Due.be("clear", desk.clear(), 0);
        desk.write("x+");
        Due.be("type of a blank", desk.type(' '), false);
        Due.be("type of a tabulator", desk.type('\t'), false);
        Due.be("type of a line's end", desk.type('\n'), false);
        desk.write("1");
        Due.be("type of a blank", desk.type(' '), false);
        Due.be("read", desk.read(0), 1);
        Due.hold(desk, 0, "x+1");
        Due.be("clear", desk.clear(), 3);
    }

    private static void exponents(int kind) {
        Due.sentence("A power with ^n is the product of n times its atom, 1 if n is 0");
        Due.read(kind, "0^0", "1");
        Due.read(kind, "x^0", "1");
        Due.read(kind, "T^0", "1");
        Due.read(kind, "(x-x)^0", "1");
        Due.read(kind, "(x^9x^3T^4)^0", "1");
        Due.read(kind, "(x^9x^3T^4)^1", "x^12T^4");
        Due.read(kind, "0^1", "0");
        Due.read(kind, "0^9", "0");
        Due.read(kind, "1^9", "1");
        Due.read(kind, "(xT)^2", kind == SHIFT ? "x^2T^2+xT^2" : "x^2T^2+xT");
        Due.read(kind, "(Tx)^2", kind == SHIFT ? "x^2T^2+3xT^2+2T^2" : "x^2T^2+3xT+1");
        Due.read(kind, "-x^2", "30x^2");
        Due.read(kind, "2x^2", "2x^2");
        Due.read(kind, "T^4", "T^4");
        Due.read(kind, "(x+1)^9x^0", "x^9+9x^8+5x^7+22x^6+2x^5+2x^4+22x^3+5x^2+9x+1");
    }

    private static void fromTheLeft(int kind) {
        Due.sentence("products are worked out from the left to the right, and so are sums");
        Due.read(kind, "1-2-3", "27");
        Due.read(kind, "1-2+3", "2");
        Due.read(kind, "xT", "xT");
        Due.read(kind, "Tx", kind == SHIFT ? "xT+T" : "xT+1");
        Due.read(kind, "TxT", kind == SHIFT ? "xT^2+T^2" : "xT^2+T");
        Due.read(kind, "1-2x-3x", "26x+1");
        // 0 first keeps all that follows small; behind, it comes too late
        Due.read(kind, "0x^9x^9", "0");
        Due.refuse(kind, LARGE, "x^9x^9*0");
        Due.read(kind, "0T^4T^4", "0");
        Due.refuse(kind, LARGE, "T^4T^4*0");
    }

    private static void atMostDegree(int kind) {
        Due.sentence("the polynomials f of degree at most d with L f = g");
        // x^5 is made of a polynomial of degree 6
        String text = kind == SHIFT ? "T-1" : "T";
        Desk desk = new Desk(kind, text, "x^5", "0", "x^9x^3", "1", "x^9x^2");
        Due.be("solve up to degree 5", desk.solve(0, 1, 5), NONE);
        Due.be("solve up to degree 6", desk.solve(0, 1, 6), 1);
        Due.be("pick", desk.pick(7, 0), 7);
        Due.be("solve up to degree 12", desk.solve(0, 3, 12), NONE);
        Due.be("solve up to degree 12", desk.solve(0, 5, 12), 1);
        Due.be("pick", desk.pick(7, 0), 13);
        Due.be("solve up to degree 11", desk.solve(0, 5, 11), NONE);
        Due.be("solve f = x^12", desk.solve(4, 3, 12), 0);
        Due.be("solve f = x^12", desk.solve(4, 3, 11), NONE);
        Due.be("solve f = 1", desk.solve(4, 4, 0), 0);
        Due.be("solve up to degree 0", desk.solve(0, 2, 0), 1);
        Due.be("pick", desk.pick(7, 1), 1);
        Due.be("solve up to degree 0", desk.solve(0, 4, 0), NONE);
        Due.be("solve up to degree 1", desk.solve(0, 4, 1), 1);
        desk.put(0, kind == SHIFT ? "xT-x-12" : "xT-12");
        Due.be("solve up to degree 11", desk.solve(0, 2, 11), 0);
        Due.be("solve up to degree 12", desk.solve(0, 2, 12), 1);
        Due.be("pick", desk.pick(7, 1), 13);
    }

    private static void basis(int kind) {
        Due.sentence("just one BASIS of polynomials of ascending, different degrees "
            + "in which each has the coefficient 1 at its degree and 0 at the degrees of the others");
        // what x + 3 and (x + 3)^2, or x + 1 and (x + 1)^2, make up
        String text = kind == SHIFT ? "(x+3)(x+4)T^2-2(x+3)(x+5)T+(x+4)(x+5)" : "3(x+1)^2T^2-6(x+1)T+6";
        Desk desk = new Desk(kind, text, "0");
        Due.be("solve", desk.solve(0, 1, 12), 2);
        for (int i = 1; i <= 2; i++) {
            Due.be("pick", desk.pick(1 + i, i), 1 + i);
            Due.be("coefficient at its degree", desk.coefficient(1 + i, 0, i), 1);
            Due.be("coefficient at the other's degree", desk.coefficient(1 + i, 0, 3 - i), 0);
        }
        Due.hold(desk, 2, kind == SHIFT ? "x+3" : "x+1");
        Due.hold(desk, 3, kind == SHIFT ? "x^2+22" : "x^2+30");
        Due.be("solve with 0", desk.solve(1, 1, 12), 13);
        for (int i = 1; i <= 13; i++) {
            Due.be("pick(" + i + ")", desk.pick(7, i), i);
            Due.hold(desk, 7, i == 1 ? "1" : i == 2 ? "x" : "x^" + (i - 1));
        }
    }

    private static void dimension(int kind) {
        Due.sentence("the DIMENSION is how many these are");
        String difference = kind == SHIFT ? "(T-1)" : "T";
        Desk desk = new Desk(kind, "0", "1", difference, difference + "^4", "x^9x^3T^4");
        for (int d = 0; d <= 12; d++) {
            Due.be("solve 0 f = 0", desk.solve(0, 0, d), d + 1);
            Due.be("solve f = 0", desk.solve(1, 0, d), 0);
            Due.be("solve for constants", desk.solve(2, 0, d), 1);
            Due.be("solve for degrees below 4", desk.solve(3, 0, d), Math.min(d + 1, 4));
            Due.be("solve x^12 T^4 f = 0", desk.solve(4, 0, d), kind == SHIFT ? 0 : Math.min(d + 1, 4));
        }
    }

    private static void particular(int kind) {
        Due.sentence("the PARTICULAR one is that which has the coefficient 0 at the degrees of the basis");
        Desk desk = new Desk(kind, kind == SHIFT ? "(T-1)^3" : "T^3", "x+2", "0", "x^2-x+7");
        Due.be("solve", desk.solve(0, 1, 12), 3);
        Due.be("pick", desk.pick(7, 0), 5);
        for (int k = 0; k <= 2; k++) {
            Due.be("coefficient at the degree " + k, desk.coefficient(7, 0, k), 0);
        }
        desk.apply(6, 0, 7);
        Due.be("L f = g", desk.same(6, 1), true);
        Due.be("solve for 0", desk.solve(0, 2, 12), 3);
        Due.be("pick of the polynomial 0", desk.pick(7, 0), 0);
        Due.hold(desk, 7, "0");
        Due.be("solve 0 f = 0", desk.solve(2, 2, 12), 13);
        Due.be("pick of the polynomial 0", desk.pick(7, 0), 0);
        Due.be("solve up to degree 4", desk.solve(0, 3, 4), NONE);
        Due.be("solve up to degree 5", desk.solve(0, 3, 5), 3);
        Due.be("pick", desk.pick(7, 0), 6);
        // a basis that has lower terms: the degree is what counts
        desk.put(0, kind == SHIFT ? "(x+3)T-x-4" : "(x+3)T-1");
        desk.put(1, kind == SHIFT ? "x^2+7x+12" : "x^2+6x+9");
        Due.be("solve", desk.solve(0, 1, 12), 1);
        Due.be("pick of the basis", desk.pick(6, 1), 2);
        Due.hold(desk, 6, "x+3");
        Due.be("pick", desk.pick(7, 0), 3);
        Due.be("coefficient at the degree 1", desk.coefficient(7, 0, 1), 0);
        desk.apply(6, 0, 7);
        Due.be("L f = g", desk.same(6, 1), true);
    }
}
