/** One group of calls for each promise: ordinary inputs, the edges that the document names, wrong inputs. */
public final class PromiseTest {
    private static final int DERIVATIVE = Desk.DERIVATIVE;
    private static final int SHIFT = Desk.SHIFT;

    public static void main(String[] args) {
        newObject();
        type();
        clear();
        readValues();
        readSyntax();
        readLarge();
        order();
        coefficient();
        add();
        multiply();
        apply();
        divide();
        over();
        solve();
        pick();
        factor();
        line();
        same();
        show();
        at();
        refusalsChangeNothing();
        Due.end();
    }

    private static final int[] NO_REGISTERS = {-1, 8, 9, Integer.MIN_VALUE, Integer.MAX_VALUE};

    private static void newObject() {
        Due.about("promise 1");
        for (int kind : new int[] {0, 1, 2, -1, Integer.MIN_VALUE, Integer.MAX_VALUE}) {
            Desk desk = new Desk(kind);
            for (int register = 0; register < 8; register++) {
                Due.be("order of a new register", desk.order(register), -1);
            }
            Due.be("at(0)", desk.at(0), OreSolver.BAD);
            Due.be("pick", desk.pick(0, 0), OreSolver.BAD);
            Due.be("pick", desk.pick(0, 1), OreSolver.BAD);
            Due.be("line", desk.line(0), OreSolver.BAD);
            Due.be("clear", desk.clear(), 0);
            desk.put(0, "Tx");
            Due.hold(desk, 0, kind == 0 ? "xT+1" : "xT+T");
        }
    }

    private static void type() {
        Due.about("promise 2");
        Desk desk = new Desk(DERIVATIVE);
        for (int code : new int[] {0, 9, 10, 32, 127, 128, 255, 256 + 'x', 65535}) {
            Due.be("type of code " + code, desk.type((char) code), false);
        }
        Due.be("clear", desk.clear(), 0);
        for (int code = 33; code <= 126; code++) {
            Due.be("type of code " + code, desk.type((char) code), true);
            Due.be("clear", desk.clear(), 1);
        }
        for (int n = 0; n < 40; n++) {
            Due.be("type " + n, desk.type(n % 2 == 0 ? '1' : '+'), true);
        }
        Due.be("type number 41", desk.type('1'), false);
        Due.be("read of 40 characters that end with +", desk.read(0), OreSolver.SYNTAX);
        Due.be("clear", desk.clear(), 40);
        for (int n = 0; n < 39; n++) {
            desk.type(n % 2 == 0 ? '1' : '+');
        }
        Due.be("type number 40", desk.type('3'), true);
        Due.be("type number 41", desk.type('3'), false);
        Due.be("read", desk.read(0), 1);
        Due.hold(desk, 0, Integer.toString((19 + 13) % 31));
    }

    private static void clear() {
        Due.about("promise 3");
        Desk desk = new Desk(SHIFT);
        Due.be("clear", desk.clear(), 0);
        desk.type('x');
        desk.type('\n');
        desk.type('T');
        Due.be("clear", desk.clear(), 2);
        Due.be("clear", desk.clear(), 0);
        Due.be("read of nothing", desk.read(0), OreSolver.SYNTAX);
        desk.type('7');
        Due.be("read", desk.read(0), 1);
        Due.hold(desk, 0, "7");
    }

    private static void dueRead(int kind, String text, String want) {
        Desk desk = new Desk(kind, "5x+T");
        int answer = desk.put(0, text);
        Due.be("read of " + text, answer, desk.order(0) + 1);
        Due.be("what was read from " + text, desk.shown(0), want);
        Due.be("clear behind read", desk.clear(), text.length());
    }

    private static void readValues() {
        Due.about("promise 4");
        dueRead(DERIVATIVE, "0", "0");
        dueRead(DERIVATIVE, "31", "0");
        dueRead(DERIVATIVE, "-1", "30");
        dueRead(DERIVATIVE, "+1", "1");
        dueRead(DERIVATIVE, "9999999999999999999999999999999999999999",
            new java.math.BigInteger("9".repeat(40)).mod(java.math.BigInteger.valueOf(31)).toString());
        dueRead(DERIVATIVE, "00000000000000000000000000000000000034", "3");
        dueRead(DERIVATIVE, "2xT", "2xT");
        dueRead(DERIVATIVE, "2*x*T", "2xT");
        dueRead(DERIVATIVE, "2x*3T", "6xT");
        dueRead(DERIVATIVE, "x2", "2x");
        dueRead(DERIVATIVE, "x^12", "2x");
        dueRead(DERIVATIVE, "x^123", "23x");
        dueRead(DERIVATIVE, "2^34", "1");
        dueRead(DERIVATIVE, "x^0", "1");
        dueRead(DERIVATIVE, "0^0", "1");
        dueRead(DERIVATIVE, "0^5", "0");
        dueRead(DERIVATIVE, "T^4", "T^4");
        dueRead(DERIVATIVE, "x^9x^3", "x^12");
        dueRead(DERIVATIVE, "x^9x^3T^4", "x^12T^4");
        dueRead(DERIVATIVE, "(x^3)^4", "x^12");
        dueRead(DERIVATIVE, "-x-T-1", "30T+30x+30");
        dueRead(DERIVATIVE, "-(x-T)^2", "30T^2+2xT+30x^2+1");
        dueRead(DERIVATIVE, "-x^2", "30x^2");
        dueRead(DERIVATIVE, "(-x)^2", "x^2");
        dueRead(DERIVATIVE, "x-x", "0");
        dueRead(DERIVATIVE, "Tx-xT", "1");
        dueRead(SHIFT, "Tx-xT", "T");
        dueRead(DERIVATIVE, "T^2x^3", "x^3T^2+6x^2T+6x");
        dueRead(SHIFT, "T^2x^3", "x^3T^2+6x^2T^2+12xT^2+8T^2");
        dueRead(DERIVATIVE, "(xT)^2", "x^2T^2+xT");
        dueRead(SHIFT, "(xT)^2", "x^2T^2+xT^2");
        dueRead(DERIVATIVE, "((((T))))", "T");
        dueRead(DERIVATIVE, "((((1))))((((2))))+((((4))))", "6");
        dueRead(DERIVATIVE, "(x)(T)2(3)", "6xT");
        dueRead(DERIVATIVE, "T(x+1)(x-1)", "x^2T+30T+2x");
        dueRead(DERIVATIVE, "(T^4)^1", "T^4");
        dueRead(DERIVATIVE, "(T^4)^0", "1");
        dueRead(DERIVATIVE, "0T^4T^0", "0");
        dueRead(DERIVATIVE, "0T^4T^4", "0");
        Desk desk = new Desk(DERIVATIVE);
        for (int register : NO_REGISTERS) {
            Due.be("read(" + register + ")", desk.read(register), OreSolver.BAD);
        }
    }

    private static void readSyntax() {
        Due.about("promise 4, SYNTAX");
        String[] none = {
            "", "+", "-", "--1", "+-1", "1--1", "1+-1", "1+", "1-", "*1", "1*", "1**1", "1*-1", "^2", "x^", "x^x",
            "x^-1",
            "x^(2)", "x^2^3", "x^1^1", "()", "(", ")", "(1", "1)", "(1))", "((1)", "(+)", "(1+)", "(*1)", "y", "X", "t",
            "1,2", "1.5", "x/2", "2x_", "x!", "{1}", "[1]", "T^9)", "(T^9", "T^9+", "T^9T^9y", "x^9x^9*", "(((((1)))))",
            "1+(((((x)))))", "(T^9)^9^", "~", "1=1", "\"", "x^9^", "T^^2", "(1)^(2)", "(x^9x^9)(", "2^x",
            "(1]", "(x,", "(1y", "2(x}T",
        };
        for (int kind = 0; kind < 2; kind++) {
            for (String text : none) {
                Desk desk = new Desk(kind, "5x+T");
                Due.be("read of " + text, desk.put(0, text), OreSolver.SYNTAX);
                Due.hold(desk, 0, "T+5x");
                Due.be("read(8) of " + text, desk.read(8), OreSolver.BAD);
                Due.be("clear", desk.clear(), text.length());
            }
        }
    }

    private static void readLarge() {
        Due.about("promise 4, LARGE");
        String[] large = {
            "T^5", "T^9", "x^9x^4", "T^4T", "(T^2)^3", "(x^2)^7", "0*T^5", "T^5*0", "T^4T0", "T^5-T^5", "(T^5)^0",
            "(x^9)^2", "x^9x^9T^9", "T^3(x+1)T^2", "1+(2+(3+T^5))", "(T^4T)0", "x^9x^9-x^9x^9", "(x+T)^5", "(xT)^5",
            "(x^7+T)^2", "x^5(x^8)", "0+T^9", "x^9x^9x^0",
        };
        for (int kind = 0; kind < 2; kind++) {
            for (String text : large) {
                Desk desk = new Desk(kind, "5x+T");
                Due.be("read of " + text, desk.put(0, text), OreSolver.LARGE);
                Due.hold(desk, 0, "T+5x");
                Due.be("read(-1) of " + text, desk.read(-1), OreSolver.BAD);
            }
        }
    }

    private static void order() {
        Due.about("promise 5");
        Desk desk = new Desk(SHIFT, "7", "x^5", "xT^2-2", "T^4", "T-T");
        int[] orders = {0, 0, 2, 4, -1, -1, -1, -1};
        for (int register = 0; register < 8; register++) {
            Due.be("order", desk.order(register), orders[register]);
        }
        for (int register : NO_REGISTERS) {
            Due.be("order(" + register + ")", desk.order(register), -2);
        }
    }

    private static void coefficient() {
        Due.about("promise 6");
        Desk desk = new Desk(DERIVATIVE, "3x^9x^3T^4+xT-2");
        for (int i = 0; i <= 4; i++) {
            for (int k = 0; k <= 12; k++) {
                int want = i == 4 && k == 12 ? 3 : i == 1 && k == 1 ? 1 : i == 0 && k == 0 ? 29 : 0;
                Due.be("coefficient " + i + " " + k, desk.coefficient(0, i, k), want);
            }
        }
        for (int none : NO_REGISTERS) {
            Due.bad("coefficient", desk.coefficient(none, 0, 0));
        }
        for (int none : new int[] {-1, 5, Integer.MIN_VALUE, Integer.MAX_VALUE}) {
            Due.bad("coefficient", desk.coefficient(0, none, 0));
        }
        for (int none : new int[] {-1, 13, Integer.MIN_VALUE, Integer.MAX_VALUE}) {
            Due.bad("coefficient", desk.coefficient(0, 0, none));
        }
    }

    private static void add() {
        Due.about("promise 7");
        Desk desk = new Desk(DERIVATIVE, "xT+3", "T^2-5x");
        Due.be("add", desk.add(2, 0, 1, 1), 0);
        Due.hold(desk, 2, "T^2+xT+26x+3");
        Due.be("add", desk.add(2, 0, 1, 30), 0);
        Due.hold(desk, 2, "30T^2+xT+5x+3");
        Due.be("add", desk.add(2, 0, 1, 0), 0);
        Due.be("a sum with 0 times", desk.same(2, 0), true);
        Due.be("add", desk.add(0, 0, 0, 1), 0);
        Due.hold(desk, 0, "2xT+6");
        Due.be("add", desk.add(0, 0, 0, 30), 0);
        Due.hold(desk, 0, "0");
        Due.be("add", desk.add(1, 0, 1, 7), 0);
        Due.hold(desk, 1, "7T^2+27x");
        for (int none : NO_REGISTERS) {
            Due.bad("add", desk.add(none, 0, 0, 1));
            Due.bad("add", desk.add(0, none, 0, 1));
            Due.bad("add", desk.add(0, 0, none, 1));
        }
        for (int none : new int[] {-1, 31, Integer.MIN_VALUE, Integer.MAX_VALUE}) {
            Due.bad("add", desk.add(0, 0, 0, none));
        }
    }

    private static void multiply() {
        Due.about("promise 8");
        Desk desk = new Desk(DERIVATIVE, "T^2+x", "x^3T-1", "x^6", "x^7", "T^2", "T^3");
        Due.be("multiply", desk.multiply(6, 0, 1), 0);
        Due.hold(desk, 6, "x^3T^3+6x^2T^2+30T^2+x^4T+6xT+30x");
        Due.be("multiply", desk.multiply(6, 1, 0), 0);
        Due.hold(desk, 6, "x^3T^3+30T^2+x^4T+x^3+30x");
        Due.be("multiply to degree 12", desk.multiply(7, 2, 2), 0);
        Due.hold(desk, 7, "x^12");
        Due.be("multiply to degree 13", desk.multiply(7, 2, 3), OreSolver.LARGE);
        Due.hold(desk, 7, "x^12");
        Due.be("multiply to order 4", desk.multiply(4, 4, 4), 0);
        Due.hold(desk, 4, "T^4");
        Due.be("multiply to order 7", desk.multiply(5, 4, 5), OreSolver.LARGE);
        Due.hold(desk, 5, "T^3");
        Due.be("multiply to order 8", desk.multiply(5, 4, 4), OreSolver.LARGE);
        Due.be("multiply to degree 24", desk.multiply(5, 7, 7), OreSolver.LARGE);
        Due.hold(desk, 5, "T^3");
        desk.add(6, 6, 6, 30);
        Due.be("multiply by 0", desk.multiply(4, 4, 6), 0);
        Due.hold(desk, 4, "0");
        Desk shift = new Desk(SHIFT, "T^2+x", "x^2T-1");
        Due.be("multiply", shift.multiply(1, 0, 1), 0);
        Due.hold(shift, 1, "x^2T^3+4xT^3+4T^3+30T^2+x^3T+30x");
        for (int none : NO_REGISTERS) {
            Due.bad("multiply", desk.multiply(none, 0, 0));
            Due.bad("multiply", desk.multiply(0, none, 0));
            Due.bad("multiply", desk.multiply(0, 0, none));
        }
    }

    private static void apply() {
        Due.about("promise 9");
        Desk desk = new Desk(DERIVATIVE, "xT^2-3", "x^5+x", "x^9x^3", "xT", "xT-12");
        Due.be("apply", desk.apply(5, 0, 1), 0);
        Due.hold(desk, 5, "28x^5+20x^4+28x");
        Due.be("apply", desk.apply(5, 3, 2), 0);
        Due.hold(desk, 5, "12x^12");
        Due.be("apply that cancels", desk.apply(5, 4, 2), 0);
        Due.hold(desk, 5, "0");
        desk.put(6, "x^2T-12x");
        Due.be("apply with what comes on the way being large", desk.apply(5, 6, 2), 0);
        Due.hold(desk, 5, "0");
        desk.put(6, "x^2T-11x");
        Due.be("apply with a large result", desk.apply(5, 6, 2), OreSolver.LARGE);
        Due.be("apply to degree 24", desk.apply(5, 2, 2), OreSolver.LARGE);
        Due.be("apply to an operator", desk.apply(5, 6, 3), OreSolver.ORDER);
        Due.be("apply to 0", desk.apply(0, 0, 7), 0);
        Due.hold(desk, 0, "0");
        Due.be("apply 0", desk.apply(1, 0, 1), 0);
        Due.hold(desk, 1, "0");
        Desk shift = new Desk(SHIFT, "T^4-xT", "x^2");
        Due.be("apply", shift.apply(1, 0, 1), 0);
        Due.hold(shift, 1, "30x^3+30x^2+7x+16");
        for (int none : NO_REGISTERS) {
            Due.bad("apply", desk.apply(none, 0, 0));
            Due.bad("apply", desk.apply(0, none, 0));
            Due.bad("apply", desk.apply(0, 0, none));
            Due.bad("apply to an operator", desk.apply(none, 0, 3));
        }
    }

    private static void divide() {
        Due.about("promise 10");
        Desk desk = new Desk(DERIVATIVE, "T^3", "3T+x", "T^2+1", "x", "5");
        Due.be("divide", desk.divide(5, 6, 0, 1), 0);
        desk.multiply(7, 5, 1);
        desk.add(7, 7, 6, 1);
        Due.be("A = Q B + R", desk.same(7, 0), true);
        Due.be("order of R", desk.order(6), 0);
        Due.be("divide by a number", desk.divide(5, 6, 1, 4), 0);
        Due.hold(desk, 5, "13T+25x");
        Due.hold(desk, 6, "0");
        Due.be("divide by a higher order", desk.divide(5, 6, 1, 2), 0);
        Due.hold(desk, 5, "0");
        Due.hold(desk, 6, "3T+x");
        Due.be("divide by x", desk.divide(5, 6, 1, 3), OreSolver.ORDER);
        desk.put(7, "xT+1");
        Due.be("divide by xT+1", desk.divide(5, 6, 0, 7), OreSolver.ORDER);
        desk.put(7, "0");
        Due.be("divide by 0", desk.divide(5, 6, 0, 7), OreSolver.ORDER);
        Due.be("divide into one register", desk.divide(5, 5, 0, 1), OreSolver.BAD);
        Due.be("divide into one register by 0", desk.divide(5, 5, 0, 7), OreSolver.BAD);
        Due.be("divide in place", desk.divide(0, 1, 0, 1), 0);
        desk = new Desk(DERIVATIVE, "T^2", "T+x^7", "T+x^6");
        Due.be("divide with a large rest", desk.divide(3, 4, 0, 1), OreSolver.LARGE);
        Due.be("divide with a rest of degree 12", desk.divide(3, 4, 0, 2), 0);
        Due.hold(desk, 3, "T+30x^6");
        Due.hold(desk, 4, "x^12+25x^5");
        desk = new Desk(DERIVATIVE, "x^9x^3T^2+x", "2T", "x^9x^3T^4+xT^3", "T^3");
        Due.be("divide with a quotient of degree 12", desk.divide(5, 6, 0, 1), 0);
        Due.hold(desk, 5, "16x^12T");
        Due.hold(desk, 6, "x");
        Due.be("divide with a quotient of degree 12", desk.divide(5, 6, 2, 3), 0);
        Due.hold(desk, 5, "x^12T+x");
        Due.hold(desk, 6, "0");
        desk = new Desk(DERIVATIVE, "T^3", "T^2+x^9x^3");
        Due.be("divide by an operator of degree 12", desk.divide(5, 6, 0, 1), 0);
        Due.hold(desk, 5, "T");
        Due.hold(desk, 6, "30x^12T+19x^11");
        desk = new Desk(SHIFT, "T^2", "T+x^9x^3", "x^9x^3T");
        Due.be("divide with a rest of degree 24", desk.divide(5, 6, 0, 1), OreSolver.LARGE);
        Due.be("divide with a rest of degree 24", desk.divide(5, 6, 2, 1), OreSolver.LARGE);
        desk = new Desk(SHIFT, "T^4", "T+x^5", "T+x^4", "T-x^3");
        Due.be("divide with a large quotient", desk.divide(4, 5, 0, 1), OreSolver.LARGE);
        Due.be("divide with a rest of degree 16", desk.divide(4, 5, 0, 2), OreSolver.LARGE);
        Due.be("divide with a rest of degree 12", desk.divide(4, 5, 0, 3), 0);
        Due.be("coefficient", desk.coefficient(5, 0, 12), 1);
        for (int none : NO_REGISTERS) {
            Due.bad("divide", desk.divide(none, 1, 0, 3));
            Due.bad("divide", desk.divide(0, none, 0, 3));
            Due.bad("divide", desk.divide(0, 1, none, 3));
            Due.bad("divide", desk.divide(0, 1, 0, none));
            Due.bad("divide by 0", desk.divide(none, 1, 0, 7));
        }
    }

    private static void over() {
        Due.about("promise 11");
        Desk desk = new Desk(DERIVATIVE, "T", "x", "xT^2-T+3", "x^2+1", "T^3", "x^4", "5");
        Due.be("over", desk.over(7, 0, 1), 1);
        Due.hold(desk, 7, "xT+30");
        Due.be("over", desk.over(7, 2, 3), 2);
        // q^3 L (1/q) q is q^3 L
        desk.put(0, "(x^2+1)^3(xT^2-T+3)");
        desk.multiply(7, 7, 3);
        Due.be("M q = q^3 L", desk.same(7, 0), true);
        Due.be("over of degree 12", desk.over(7, 4, 5), 3);
        Due.be("coefficient", desk.coefficient(7, 3, 12), 1);
        desk.put(7, "xT^3");
        Due.be("over of degree 13", desk.over(7, 7, 5), OreSolver.LARGE);
        Due.hold(desk, 7, "xT^3");
        Desk largest = new Desk(DERIVATIVE, "x^9x^3T^4", "x^9x^3", "T");
        Due.be("over x^12", largest.over(7, 2, 1), 1);
        Due.hold(largest, 7, "x^12T+19x^11");
        Due.be("over of degree 60", largest.over(7, 0, 1), OreSolver.LARGE);
        largest = new Desk(SHIFT, "x^9x^3T^4", "x^9x^3");
        Due.be("over of degree 60", largest.over(7, 0, 1), OreSolver.LARGE);
        Due.be("over a number", desk.over(7, 2, 6), 2);
        Due.hold(desk, 7, "25xT^2+6T+13");
        desk.put(7, "x+2");
        Due.be("over of a polynomial", desk.over(0, 7, 1), 0);
        Due.hold(desk, 0, "x+2");
        Desk shift = new Desk(SHIFT, "T-1", "x", "xT^2+3", "x^2+x", "T^4", "x^4");
        Due.be("over", shift.over(7, 0, 1), 1);
        Due.hold(shift, 7, "xT+30x+30");
        Due.be("over", shift.over(7, 2, 3), 2);
        shift.multiply(7, 7, 3);
        shift.put(0, "(x^2+x)(x+1)(x+2)(x+2)(x+3)(xT^2+3)");
        Due.be("M q = q q_1 q_2 L", shift.same(7, 0), true);
        Due.be("over of degree 16", shift.over(7, 4, 5), OreSolver.LARGE);
        Due.be("over in place", shift.over(1, 0, 1), 2);
        shift.put(6, "0");
        Due.be("over 0", shift.over(7, 2, 6), OreSolver.ORDER);
        Due.be("over an operator", shift.over(7, 2, 4), OreSolver.ORDER);
        Due.be("0 over x", shift.over(7, 6, 3), OreSolver.ORDER);
        Due.be("0 over 0", shift.over(7, 6, 6), OreSolver.ORDER);
        for (int none : NO_REGISTERS) {
            Due.bad("over", shift.over(none, 0, 3));
            Due.bad("over", shift.over(0, none, 3));
            Due.bad("over", shift.over(0, 0, none));
            Due.bad("over of 0", shift.over(none, 6, 6));
        }
    }

    private static void solve() {
        Due.about("promise 12");
        Desk desk = new Desk(DERIVATIVE, "xT-3", "x^5", "0", "x^3", "T", "T^2-1", "x^2-2");
        Due.be("solve", desk.solve(0, 2, 12), 1);
        Due.be("solve with too low a degree", desk.solve(0, 2, 2), 0);
        Due.be("solve", desk.solve(0, 1, 12), 1);
        Due.be("solve", desk.solve(0, 1, 4), OreSolver.NONE);
        Due.be("solve without solutions", desk.solve(0, 3, 12), OreSolver.NONE);
        Due.be("solve with 0 as the operator", desk.solve(2, 2, 12), 13);
        Due.be("solve with 0 as the operator", desk.solve(2, 2, 0), 1);
        Due.be("solve with 0 as the operator and no solution", desk.solve(2, 1, 12), OreSolver.NONE);
        Due.be("solve with the operator as right side", desk.solve(4, 4, 12), OreSolver.ORDER);
        Due.be("solve", desk.solve(4, 2, 0), 1);
        Due.be("solve", desk.solve(5, 6, 12), 0);
        desk.pick(7, 0);
        Due.hold(desk, 7, "30x^2");
        for (int none : NO_REGISTERS) {
            Due.bad("solve", desk.solve(none, 2, 12));
            Due.bad("solve", desk.solve(0, none, 12));
        }
        for (int none : new int[] {-1, 13, Integer.MIN_VALUE, Integer.MAX_VALUE}) {
            Due.bad("solve", desk.solve(0, 2, none));
            Due.bad("solve with an operator as right side", desk.solve(0, 4, none));
        }
        Desk twelve = new Desk(DERIVATIVE, "x^9x^3", "0");
        Due.be("solve with images of degree 24", twelve.solve(0, 1, 12), 0);
        Due.be("solve with an image as right side", twelve.solve(0, 0, 12), 0);
        Desk shift = new Desk(SHIFT, "xT-x-5", "0", "T-1", "x^9x^2");
        Due.be("solve", shift.solve(0, 1, 12), 1);
        Due.be("solve", shift.solve(0, 1, 4), 0);
        Due.be("solve", shift.solve(2, 3, 12), 1);
        Due.be("solve", shift.solve(2, 3, 11), OreSolver.NONE);
    }

    private static void pick() {
        Due.about("promise 13");
        Desk desk = new Desk(DERIVATIVE, "T^3", "x", "0", "5xT^2");
        Due.be("solve", desk.solve(0, 1, 12), 3);
        Due.be("pick", desk.pick(7, 0), 5);
        Due.hold(desk, 7, "22x^4");
        for (int i = 1; i <= 3; i++) {
            Due.be("pick", desk.pick(7, i), i);
            Due.hold(desk, 7, i == 1 ? "1" : i == 2 ? "x" : "x^2");
        }
        Due.be("pick behind the last", desk.pick(7, 4), OreSolver.BAD);
        Due.be("pick(-1)", desk.pick(7, -1), OreSolver.BAD);
        Due.be("pick", desk.pick(7, Integer.MAX_VALUE), OreSolver.BAD);
        Due.be("solve that is refused", desk.solve(0, 3, 12), OreSolver.ORDER);
        Due.be("solve that is refused", desk.solve(0, 1, 13), OreSolver.BAD);
        Due.be("solve without solutions", desk.solve(2, 1, 12), OreSolver.NONE);
        Due.be("pick of what was found before", desk.pick(0, 0), 5);
        Due.be("pick into a register that held an operator", desk.order(0), 0);
        Due.be("solve", desk.solve(3, 2, 3), 2);
        Due.be("pick of the particular solution 0", desk.pick(7, 0), 0);
        Due.be("pick", desk.pick(7, 3), OreSolver.BAD);
        for (int none : NO_REGISTERS) {
            Due.bad("pick", desk.pick(none, 0));
        }
        pickBases();
        Desk zeros = new Desk(SHIFT, "(T-1)^2", "x", "0");
        Due.be("solve", zeros.solve(0, 1, 12), 2);
        Due.be("pick", zeros.pick(7, 0), 4);
        Due.be("coefficient at a degree of the basis", zeros.coefficient(7, 0, 0), 0);
        Due.be("coefficient at a degree of the basis", zeros.coefficient(7, 0, 1), 0);
    }

    private static void pickBases() {
        Desk desk = new Desk(DERIVATIVE, "(x+1)T-3", "(x+1)^2T^2-2(x+1)T+2", "0", "(x+1)^3");
        Due.be("solve", desk.solve(0, 2, 12), 1);
        Due.be("pick", desk.pick(7, 1), 4);
        Due.hold(desk, 7, "x^3+3x^2+3x+1");
        Due.be("solve", desk.solve(1, 2, 12), 2);
        Due.be("pick", desk.pick(7, 1), 2);
        Due.hold(desk, 7, "x+1");
        Due.be("pick", desk.pick(7, 2), 3);
        Due.hold(desk, 7, "x^2+30");
        // (x + 1)^3 / 2, less what it has at the degrees 1 and 2
        Due.be("solve", desk.solve(1, 3, 12), 2);
        Due.be("pick", desk.pick(7, 0), 4);
        Due.hold(desk, 7, "16x^3+16");
        Desk shift = new Desk(SHIFT, "xT-x-3", "0");
        Due.be("solve", shift.solve(0, 1, 12), 1);
        Due.be("pick", shift.pick(7, 1), 4);
        Due.hold(shift, 7, "x^3+3x^2+2x");
    }

    private static void factor() {
        Due.about("promise 14");
        Desk desk = new Desk(DERIVATIVE, "T^2-1", "x", "0", "x(T-x)", "T^2-x^2-1", "(T-2x)(T-3)", "T");
        Due.be("factor", desk.factor(0), 2);
        Due.be("line", desk.line(0), 1);
        Due.be("line", desk.line(1), 30);
        Due.be("factor of a polynomial", desk.factor(1), 0);
        Due.be("line", desk.line(0), OreSolver.BAD);
        Due.be("factor of 0", desk.factor(2), OreSolver.ORDER);
        Due.be("factor", desk.factor(3), 1);
        Due.be("line", desk.line(0), 31);
        Due.be("factor", desk.factor(4), 1);
        Due.be("line", desk.line(0), 31);
        Due.be("factor", desk.factor(5), 1);
        Due.be("line", desk.line(0), 3);
        Due.be("factor", desk.factor(6), 1);
        Due.be("line", desk.line(0), 0);
        Desk shift = new Desk(SHIFT, "(T-x)(T-x)", "(T-2)(T-3)(T-4)(T-5)", "x^9x^3T^4", "T^2+1", "(T-x-1)(T-x)");
        Due.be("factor", shift.factor(1), 4);
        for (int i = 0; i < 4; i++) {
            Due.be("line", shift.line(i), 2 + i);
        }
        Due.be("factor", shift.factor(2), 1);
        Due.be("line", shift.line(0), 0);
        Due.be("factor", shift.factor(3), 0);
        Due.be("factor", shift.factor(0), 1);
        Due.be("line", shift.line(0), 31);
        Due.be("factor", shift.factor(4), 2);
        Due.be("line", shift.line(0), 31);
        Due.be("line", shift.line(1), 32);
        restsWithManyZeros();
        for (int none : NO_REGISTERS) {
            Due.bad("factor", shift.factor(none));
        }
    }

    /** The rest of a T^4 for x - 15 or so is 0 at 16 places, and still not the polynomial 0. */
    private static void restsWithManyZeros() {
        for (int first = 0; first < 31; first++) {
            Desk desk = new Desk(SHIFT, "x(x-1)(x-2)(x-3)(x-4)(x-5)", "T", "T^4");
            for (int n = 0; n < (31 - first) % 31; n++) {
                desk.apply(0, 1, 0);
            }
            desk.add(3, 4, 0, 1);
            for (int n = 0; n < 25; n++) {
                desk.apply(3, 1, 3);
            }
            desk.multiply(0, 0, 3);
            desk.multiply(0, 0, 2);
            Due.be("factor", desk.factor(0), 1);
            Due.be("line", desk.line(0), 0);
        }
    }

    private static void line() {
        Due.about("promise 15");
        Desk desk = new Desk(SHIFT, "(T-1)(T-30)", "0");
        Due.be("line before factor", desk.line(0), OreSolver.BAD);
        Due.be("factor", desk.factor(0), 2);
        Due.be("line", desk.line(0), 1);
        Due.be("line", desk.line(1), 30);
        for (int none : new int[] {-1, 2, 961, Integer.MIN_VALUE, Integer.MAX_VALUE}) {
            Due.bad("line", desk.line(none));
        }
        Due.be("factor that is refused", desk.factor(1), OreSolver.ORDER);
        Due.be("factor that is refused", desk.factor(8), OreSolver.BAD);
        Due.be("line as before", desk.line(1), 30);
        desk.put(0, "T-30x-30");
        Due.be("factor", desk.factor(0), 1);
        Due.be("line", desk.line(0), 960);
        Due.be("line", desk.line(1), OreSolver.BAD);
    }

    private static void same() {
        Due.about("promise 16");
        Desk desk = new Desk(DERIVATIVE, "Tx", "xT+1", "xT", "x^9x^3T^4", "0");
        Due.be("same", desk.same(0, 1), true);
        Due.be("same", desk.same(0, 0), true);
        Due.be("same", desk.same(0, 2), false);
        Due.be("same", desk.same(3, 4), false);
        Due.be("same", desk.same(4, 5), true);
        for (int none : NO_REGISTERS) {
            Due.be("same", desk.same(none, 0), false);
            Due.be("same", desk.same(0, none), false);
            Due.be("same", desk.same(none, none), false);
        }
    }

    private static void show() {
        Due.about("promise 17");
        Desk desk = new Desk(DERIVATIVE, "0", "1", "x", "T", "2xT", "30x^9x^3T^4+x^9x^3T+x^9x+10T^2+12", "T^2+2T+1",
            "x^2-x");
        String[] texts = {"0", "1", "x", "T", "2xT", "30x^12T^4+10T^2+x^12T+x^10+12", "T^2+2T+1", "x^2+30x"};
        for (int register = 0; register < 8; register++) {
            Due.hold(desk, register, texts[register]);
            Due.be("length", desk.show(register), texts[register].length());
        }
        for (int none : NO_REGISTERS) {
            Due.bad("show", desk.show(none));
        }
        Due.be("at behind a show that was refused", desk.at(0), 'x');
        Due.be("at behind a show that was refused", desk.at(7), OreSolver.BAD);
        longestShow();
    }

    /** All the terms that a register can hold, each with 30: read out on two desks, as one has too few calls for it. */
    private static void longestShow() {
        StringBuilder want = new StringBuilder();
        for (int i = 4; i >= 0; i--) {
            for (int k = 12; k >= 0; k--) {
                want.append(want.length() == 0 ? "30" : "+30");
                want.append(k == 0 ? "" : k == 1 ? "x" : "x^" + k);
                want.append(i == 0 ? "" : i == 1 ? "T" : "T^" + i);
            }
        }
        int half = want.length() / 2;
        showPart(want.toString(), 0, half);
        showPart(want.toString(), half, want.length());
    }

    private static void showPart(String want, int from, int to) {
        Desk desk = new Desk(SHIFT, "30x^4+30x^3+30x^2+30x+30", "0", "x^9x^3", "T^4+T^3+T^2+T+1");
        desk.put(4, "x^5");
        desk.multiply(5, 4, 0);
        desk.add(0, 0, 5, 1);
        desk.put(4, "30x^9x+30x^9x^2");
        desk.add(0, 0, 4, 1);
        desk.add(0, 0, 2, 30);
        desk.multiply(0, 0, 3);
        Due.be("length of the longest output", desk.show(0), want.length());
        StringBuilder got = new StringBuilder();
        for (int i = from; i < to; i++) {
            got.append((char) desk.at(i));
        }
        Due.be("part of the longest output", got.toString(), want.substring(from, to));
        Due.bad("at behind the longest output", desk.at(want.length()));
    }

    private static void at() {
        Due.about("promise 18");
        Desk desk = new Desk(DERIVATIVE, "x^9x^3T^4", "7");
        Due.be("at before show", desk.at(0), OreSolver.BAD);
        Due.be("show", desk.show(0), 7);
        String want = "x^12T^4";
        for (int i = 0; i < want.length(); i++) {
            Due.be("at", desk.at(i), want.charAt(i));
        }
        for (int none : new int[] {-1, 7, 8, 650, 1000, Integer.MIN_VALUE, Integer.MAX_VALUE}) {
            Due.bad("at", desk.at(none));
        }
        Due.be("show", desk.show(1), 1);
        Due.be("at", desk.at(0), '7');
        Due.be("at behind a shorter output", desk.at(1), OreSolver.BAD);
        desk.put(1, "x");
        Due.be("the output stays when the register changes", desk.at(0), '7');
    }

    private static void refusalsChangeNothing() {
        Due.about("terms");
        Desk desk = new Desk(DERIVATIVE, "x^9T^3", "x^9+T^2", "xT", "x^7", "T+x^9", "0", "T^4", "x");
        String[] before = new String[8];
        for (int register = 0; register < 8; register++) {
            before[register] = desk.shown(register);
        }
        for (int to = 0; to < 8; to++) {
            Due.be("multiply", desk.multiply(to, 0, 1), OreSolver.LARGE);
            Due.be("apply", desk.apply(to, 1, 3), OreSolver.LARGE);
            Due.be("apply", desk.apply(to, 1, 2), OreSolver.ORDER);
            Due.be("divide", desk.divide(to, (to + 1) % 8, 6, 4), OreSolver.LARGE);
            Due.be("divide", desk.divide(to, (to + 1) % 8, 6, 2), OreSolver.ORDER);
            Due.be("over", desk.over(to, 6, 3), OreSolver.LARGE);
            Due.be("over", desk.over(to, 5, 3), OreSolver.ORDER);
            Due.be("pick", desk.pick(to, 0), OreSolver.BAD);
            Due.be("add", desk.add(to, 0, 1, 31), OreSolver.BAD);
        }
        for (int register = 0; register < 8; register++) {
            Due.hold(desk, register, before[register]);
        }
    }
}
