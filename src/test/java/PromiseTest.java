import java.util.function.IntSupplier;

/** One group of calls for each promise: ordinary inputs, the edges that the document names, wrong inputs. */
public final class PromiseTest {
    private static final int DERIVATIVE = 0;
    private static final int SHIFT = 1;

    private static int wrong = 0;
    private static int checks = 0;
    private static String promise = "";

    public static void main(String[] args) {
        newObject();
        type();
        clear();
        readValues();
        readSyntax();
        readLarge();
        order();
        coefficient();
        add();
        multiply();
        apply();
        divide();
        over();
        solve();
        pick();
        factor();
        line();
        same();
        show();
        at();
        refusalsChangeNothing();
        System.out.println(checks + " checks, " + wrong + " wrong");
        if (wrong != 0) {
            System.exit(1);
        }
    }

    private static void due(String what, long got, long want) {
        checks++;
        if (got != want) {
            wrong++;
            System.out.println(promise + ": " + what + " answered " + got + ", due is " + want);
        }
    }

    private static void due(String what, boolean got, boolean want) {
        due(what, got ? 1 : 0, want ? 1 : 0);
    }

    private static void dueText(String what, String got, String want) {
        checks++;
        if (!got.equals(want)) {
            wrong++;
            System.out.println(promise + ": " + what + " is " + got + ", due is " + want);
        }
    }

    private static void dueRegister(OreSolver desk, int register, String want) {
        dueText("register " + register, shown(desk, register), want);
    }

    private static String shown(OreSolver desk, int register) {
        int length = desk.show(register);
        StringBuilder text = new StringBuilder();
        for (int i = 0; i < length; i++) {
            text.append((char) desk.at(i));
        }
        return text.toString();
    }

    private static int put(OreSolver desk, int register, String text) {
        desk.clear();
        for (int i = 0; i < text.length(); i++) {
            if (!desk.type(text.charAt(i))) {
                throw new IllegalArgumentException(text);
            }
        }
        return desk.read(register);
    }

    private static OreSolver desk(int kind, String... texts) {
        OreSolver desk = new OreSolver(kind);
        for (int register = 0; register < texts.length; register++) {
            if (put(desk, register, texts[register]) < 0) {
                throw new IllegalArgumentException(texts[register]);
            }
        }
        return desk;
    }

    private static void dueBad(String what, IntSupplier call) {
        due(what, call.getAsInt(), OreSolver.BAD);
    }

    private static final int[] NO_REGISTERS = {-1, 8, 9, Integer.MIN_VALUE, Integer.MAX_VALUE};

    private static void newObject() {
        promise = "promise 1";
        for (int kind : new int[] {0, 1, 2, -1, Integer.MIN_VALUE, Integer.MAX_VALUE}) {
            OreSolver desk = new OreSolver(kind);
            for (int register = 0; register < 8; register++) {
                due("order of a new register", desk.order(register), -1);
            }
            due("at(0)", desk.at(0), OreSolver.BAD);
            due("pick", desk.pick(0, 0), OreSolver.BAD);
            due("pick", desk.pick(0, 1), OreSolver.BAD);
            due("line", desk.line(0), OreSolver.BAD);
            due("clear", desk.clear(), 0);
            put(desk, 0, "Tx");
            dueRegister(desk, 0, kind == 0 ? "xT+1" : "xT+T");
        }
    }

    private static void type() {
        promise = "promise 2";
        OreSolver desk = new OreSolver(DERIVATIVE);
        for (int code : new int[] {0, 9, 10, 32, 127, 128, 255, 256 + 'x', 65535}) {
            due("type of code " + code, desk.type((char) code), false);
        }
        due("clear", desk.clear(), 0);
        for (int code = 33; code <= 126; code++) {
            due("type of code " + code, desk.type((char) code), true);
            due("clear", desk.clear(), 1);
        }
        for (int n = 0; n < 40; n++) {
            due("type " + n, desk.type(n % 2 == 0 ? '1' : '+'), true);
        }
        due("type number 41", desk.type('1'), false);
        due("read of 40 characters that end with +", desk.read(0), OreSolver.SYNTAX);
        due("clear", desk.clear(), 40);
        for (int n = 0; n < 39; n++) {
            desk.type(n % 2 == 0 ? '1' : '+');
        }
        due("type number 40", desk.type('3'), true);
        due("type number 41", desk.type('3'), false);
        due("read", desk.read(0), 1);
        dueRegister(desk, 0, Integer.toString((19 + 13) % 31));
    }

    private static void clear() {
        promise = "promise 3";
        OreSolver desk = new OreSolver(SHIFT);
        due("clear", desk.clear(), 0);
        desk.type('x');
        desk.type('\n');
        desk.type('T');
        due("clear", desk.clear(), 2);
        due("clear", desk.clear(), 0);
        due("read of nothing", desk.read(0), OreSolver.SYNTAX);
        desk.type('7');
        due("read", desk.read(0), 1);
        dueRegister(desk, 0, "7");
    }

    private static void dueRead(int kind, String text, String want) {
        OreSolver desk = desk(kind, "5x+T");
        int answer = put(desk, 0, text);
        due("read of " + text, answer, desk.order(0) + 1);
        dueText("what was read from " + text, shown(desk, 0), want);
        due("clear behind read", desk.clear(), text.length());
    }

    private static void readValues() {
        promise = "promise 4";
        dueRead(DERIVATIVE, "0", "0");
        dueRead(DERIVATIVE, "31", "0");
        dueRead(DERIVATIVE, "-1", "30");
        dueRead(DERIVATIVE, "+1", "1");
        dueRead(DERIVATIVE, "9999999999999999999999999999999999999999",
            new java.math.BigInteger("9".repeat(40)).mod(java.math.BigInteger.valueOf(31)).toString());
        dueRead(DERIVATIVE, "00000000000000000000000000000000000034", "3");
        dueRead(DERIVATIVE, "2xT", "2xT");
        dueRead(DERIVATIVE, "2*x*T", "2xT");
        dueRead(DERIVATIVE, "2x*3T", "6xT");
        dueRead(DERIVATIVE, "x2", "2x");
        dueRead(DERIVATIVE, "x^12", "2x");
        dueRead(DERIVATIVE, "x^123", "23x");
        dueRead(DERIVATIVE, "2^34", "1");
        dueRead(DERIVATIVE, "x^0", "1");
        dueRead(DERIVATIVE, "0^0", "1");
        dueRead(DERIVATIVE, "0^5", "0");
        dueRead(DERIVATIVE, "T^4", "T^4");
        dueRead(DERIVATIVE, "x^9x^3", "x^12");
        dueRead(DERIVATIVE, "x^9x^3T^4", "x^12T^4");
        dueRead(DERIVATIVE, "(x^3)^4", "x^12");
        dueRead(DERIVATIVE, "-x-T-1", "30T+30x+30");
        dueRead(DERIVATIVE, "-(x-T)^2", "30T^2+2xT+30x^2+1");
        dueRead(DERIVATIVE, "-x^2", "30x^2");
        dueRead(DERIVATIVE, "(-x)^2", "x^2");
        dueRead(DERIVATIVE, "x-x", "0");
        dueRead(DERIVATIVE, "Tx-xT", "1");
        dueRead(SHIFT, "Tx-xT", "T");
        dueRead(DERIVATIVE, "T^2x^3", "x^3T^2+6x^2T+6x");
        dueRead(SHIFT, "T^2x^3", "x^3T^2+6x^2T^2+12xT^2+8T^2");
        dueRead(DERIVATIVE, "(xT)^2", "x^2T^2+xT");
        dueRead(SHIFT, "(xT)^2", "x^2T^2+xT^2");
        dueRead(DERIVATIVE, "((((T))))", "T");
        dueRead(DERIVATIVE, "((((1))))((((2))))+((((4))))", "6");
        dueRead(DERIVATIVE, "(x)(T)2(3)", "6xT");
        dueRead(DERIVATIVE, "T(x+1)(x-1)", "x^2T+30T+2x");
        dueRead(DERIVATIVE, "(T^4)^1", "T^4");
        dueRead(DERIVATIVE, "(T^4)^0", "1");
        dueRead(DERIVATIVE, "0T^4T^0", "0");
        dueRead(DERIVATIVE, "0T^4T^4", "0");
        OreSolver desk = new OreSolver(DERIVATIVE);
        for (int register : NO_REGISTERS) {
            due("read(" + register + ")", desk.read(register), OreSolver.BAD);
        }
    }

    private static void readSyntax() {
        promise = "promise 4, SYNTAX";
        String[] none = {
            "", "+", "-", "--1", "+-1", "1--1", "1+-1", "1+", "1-", "*1", "1*", "1**1", "1*-1", "^2", "x^", "x^x", "x^-1",
            "x^(2)", "x^2^3", "x^1^1", "()", "(", ")", "(1", "1)", "(1))", "((1)", "(+)", "(1+)", "(*1)", "y", "X", "t",
            "1,2", "1.5", "x/2", "2x_", "x!", "{1}", "[1]", "T^9)", "(T^9", "T^9+", "T^9T^9y", "x^9x^9*", "(((((1)))))",
            "1+(((((x)))))", "(T^9)^9^", "~", "1=1", "\"", "x^9^", "T^^2", "(1)^(2)", "(x^9x^9)(", "2^x",
            "(1]", "(x,", "(1y", "2(x}T",
        };
        for (int kind = 0; kind < 2; kind++) {
            for (String text : none) {
                OreSolver desk = desk(kind, "5x+T");
                due("read of " + text, put(desk, 0, text), OreSolver.SYNTAX);
                dueRegister(desk, 0, "T+5x");
                due("read(8) of " + text, desk.read(8), OreSolver.BAD);
                due("clear", desk.clear(), text.length());
            }
        }
    }

    private static void readLarge() {
        promise = "promise 4, LARGE";
        String[] large = {
            "T^5", "T^9", "x^9x^4", "T^4T", "(T^2)^3", "(x^2)^7", "0*T^5", "T^5*0", "T^4T0", "T^5-T^5", "(T^5)^0",
            "(x^9)^2", "x^9x^9T^9", "T^3(x+1)T^2", "1+(2+(3+T^5))", "(T^4T)0", "x^9x^9-x^9x^9", "(x+T)^5", "(xT)^5",
            "(x^7+T)^2", "x^5(x^8)", "0+T^9", "x^9x^9x^0",
        };
        for (int kind = 0; kind < 2; kind++) {
            for (String text : large) {
                OreSolver desk = desk(kind, "5x+T");
                due("read of " + text, put(desk, 0, text), OreSolver.LARGE);
                dueRegister(desk, 0, "T+5x");
                due("read(-1) of " + text, desk.read(-1), OreSolver.BAD);
            }
        }
    }

    private static void order() {
        promise = "promise 5";
        OreSolver desk = desk(SHIFT, "7", "x^5", "xT^2-2", "T^4", "T-T");
        int[] orders = {0, 0, 2, 4, -1, -1, -1, -1};
        for (int register = 0; register < 8; register++) {
            due("order", desk.order(register), orders[register]);
        }
        for (int register : NO_REGISTERS) {
            due("order(" + register + ")", desk.order(register), -2);
        }
    }

    private static void coefficient() {
        promise = "promise 6";
        OreSolver desk = desk(DERIVATIVE, "3x^9x^3T^4+xT-2");
        for (int i = 0; i <= 4; i++) {
            for (int k = 0; k <= 12; k++) {
                int want = i == 4 && k == 12 ? 3 : i == 1 && k == 1 ? 1 : i == 0 && k == 0 ? 29 : 0;
                due("coefficient " + i + " " + k, desk.coefficient(0, i, k), want);
            }
        }
        for (int none : NO_REGISTERS) {
            dueBad("coefficient", () -> desk.coefficient(none, 0, 0));
        }
        for (int none : new int[] {-1, 5, Integer.MIN_VALUE, Integer.MAX_VALUE}) {
            dueBad("coefficient", () -> desk.coefficient(0, none, 0));
        }
        for (int none : new int[] {-1, 13, Integer.MIN_VALUE, Integer.MAX_VALUE}) {
            dueBad("coefficient", () -> desk.coefficient(0, 0, none));
        }
    }

    private static void add() {
        promise = "promise 7";
        OreSolver desk = desk(DERIVATIVE, "xT+3", "T^2-5x");
        due("add", desk.add(2, 0, 1, 1), 0);
        dueRegister(desk, 2, "T^2+xT+26x+3");
        due("add", desk.add(2, 0, 1, 30), 0);
        dueRegister(desk, 2, "30T^2+xT+5x+3");
        due("add", desk.add(2, 0, 1, 0), 0);
        due("a sum with 0 times", desk.same(2, 0), true);
        due("add", desk.add(0, 0, 0, 1), 0);
        dueRegister(desk, 0, "2xT+6");
        due("add", desk.add(0, 0, 0, 30), 0);
        dueRegister(desk, 0, "0");
        due("add", desk.add(1, 0, 1, 7), 0);
        dueRegister(desk, 1, "7T^2+27x");
        for (int none : NO_REGISTERS) {
            dueBad("add", () -> desk.add(none, 0, 0, 1));
            dueBad("add", () -> desk.add(0, none, 0, 1));
            dueBad("add", () -> desk.add(0, 0, none, 1));
        }
        for (int none : new int[] {-1, 31, Integer.MIN_VALUE, Integer.MAX_VALUE}) {
            dueBad("add", () -> desk.add(0, 0, 0, none));
        }
    }

    private static void multiply() {
        promise = "promise 8";
        OreSolver desk = desk(DERIVATIVE, "T^2+x", "x^3T-1", "x^6", "x^7", "T^2", "T^3");
        due("multiply", desk.multiply(6, 0, 1), 0);
        dueRegister(desk, 6, "x^3T^3+6x^2T^2+30T^2+x^4T+6xT+30x");
        due("multiply", desk.multiply(6, 1, 0), 0);
        dueRegister(desk, 6, "x^3T^3+30T^2+x^4T+x^3+30x");
        due("multiply to degree 12", desk.multiply(7, 2, 2), 0);
        dueRegister(desk, 7, "x^12");
        due("multiply to degree 13", desk.multiply(7, 2, 3), OreSolver.LARGE);
        dueRegister(desk, 7, "x^12");
        due("multiply to order 4", desk.multiply(4, 4, 4), 0);
        dueRegister(desk, 4, "T^4");
        due("multiply to order 7", desk.multiply(5, 4, 5), OreSolver.LARGE);
        dueRegister(desk, 5, "T^3");
        due("multiply to order 8", desk.multiply(5, 4, 4), OreSolver.LARGE);
        due("multiply to degree 24", desk.multiply(5, 7, 7), OreSolver.LARGE);
        dueRegister(desk, 5, "T^3");
        desk.add(6, 6, 6, 30);
        due("multiply by 0", desk.multiply(4, 4, 6), 0);
        dueRegister(desk, 4, "0");
        OreSolver shift = desk(SHIFT, "T^2+x", "x^2T-1");
        due("multiply", shift.multiply(1, 0, 1), 0);
        dueRegister(shift, 1, "x^2T^3+4xT^3+4T^3+30T^2+x^3T+30x");
        for (int none : NO_REGISTERS) {
            dueBad("multiply", () -> desk.multiply(none, 0, 0));
            dueBad("multiply", () -> desk.multiply(0, none, 0));
            dueBad("multiply", () -> desk.multiply(0, 0, none));
        }
    }

    private static void apply() {
        promise = "promise 9";
        OreSolver desk = desk(DERIVATIVE, "xT^2-3", "x^5+x", "x^9x^3", "xT", "xT-12");
        due("apply", desk.apply(5, 0, 1), 0);
        dueRegister(desk, 5, "28x^5+20x^4+28x");
        due("apply", desk.apply(5, 3, 2), 0);
        dueRegister(desk, 5, "12x^12");
        due("apply that cancels", desk.apply(5, 4, 2), 0);
        dueRegister(desk, 5, "0");
        put(desk, 6, "x^2T-12x");
        due("apply with what comes on the way being large", desk.apply(5, 6, 2), 0);
        dueRegister(desk, 5, "0");
        put(desk, 6, "x^2T-11x");
        due("apply with a large result", desk.apply(5, 6, 2), OreSolver.LARGE);
        due("apply to degree 24", desk.apply(5, 2, 2), OreSolver.LARGE);
        due("apply to an operator", desk.apply(5, 6, 3), OreSolver.ORDER);
        due("apply to 0", desk.apply(0, 0, 7), 0);
        dueRegister(desk, 0, "0");
        due("apply 0", desk.apply(1, 0, 1), 0);
        dueRegister(desk, 1, "0");
        OreSolver shift = desk(SHIFT, "T^4-xT", "x^2");
        due("apply", shift.apply(1, 0, 1), 0);
        dueRegister(shift, 1, "30x^3+30x^2+7x+16");
        for (int none : NO_REGISTERS) {
            dueBad("apply", () -> desk.apply(none, 0, 0));
            dueBad("apply", () -> desk.apply(0, none, 0));
            dueBad("apply", () -> desk.apply(0, 0, none));
            dueBad("apply to an operator", () -> desk.apply(none, 0, 3));
        }
    }

    private static void divide() {
        promise = "promise 10";
        OreSolver desk = desk(DERIVATIVE, "T^3", "3T+x", "T^2+1", "x", "5");
        due("divide", desk.divide(5, 6, 0, 1), 0);
        desk.multiply(7, 5, 1);
        desk.add(7, 7, 6, 1);
        due("A = Q B + R", desk.same(7, 0), true);
        due("order of R", desk.order(6), 0);
        due("divide by a number", desk.divide(5, 6, 1, 4), 0);
        dueRegister(desk, 5, "13T+25x");
        dueRegister(desk, 6, "0");
        due("divide by a higher order", desk.divide(5, 6, 1, 2), 0);
        dueRegister(desk, 5, "0");
        dueRegister(desk, 6, "3T+x");
        due("divide by x", desk.divide(5, 6, 1, 3), OreSolver.ORDER);
        put(desk, 7, "xT+1");
        due("divide by xT+1", desk.divide(5, 6, 0, 7), OreSolver.ORDER);
        put(desk, 7, "0");
        due("divide by 0", desk.divide(5, 6, 0, 7), OreSolver.ORDER);
        due("divide into one register", desk.divide(5, 5, 0, 1), OreSolver.BAD);
        due("divide into one register by 0", desk.divide(5, 5, 0, 7), OreSolver.BAD);
        due("divide in place", desk.divide(0, 1, 0, 1), 0);
        desk = desk(DERIVATIVE, "T^2", "T+x^7", "T+x^6");
        due("divide with a large rest", desk.divide(3, 4, 0, 1), OreSolver.LARGE);
        due("divide with a rest of degree 12", desk.divide(3, 4, 0, 2), 0);
        dueRegister(desk, 3, "T+30x^6");
        dueRegister(desk, 4, "x^12+25x^5");
        desk = desk(DERIVATIVE, "x^9x^3T^2+x", "2T", "x^9x^3T^4+xT^3", "T^3");
        due("divide with a quotient of degree 12", desk.divide(5, 6, 0, 1), 0);
        dueRegister(desk, 5, "16x^12T");
        dueRegister(desk, 6, "x");
        due("divide with a quotient of degree 12", desk.divide(5, 6, 2, 3), 0);
        dueRegister(desk, 5, "x^12T+x");
        dueRegister(desk, 6, "0");
        desk = desk(DERIVATIVE, "T^3", "T^2+x^9x^3");
        due("divide by an operator of degree 12", desk.divide(5, 6, 0, 1), 0);
        dueRegister(desk, 5, "T");
        dueRegister(desk, 6, "30x^12T+19x^11");
        desk = desk(SHIFT, "T^2", "T+x^9x^3", "x^9x^3T");
        due("divide with a rest of degree 24", desk.divide(5, 6, 0, 1), OreSolver.LARGE);
        due("divide with a rest of degree 24", desk.divide(5, 6, 2, 1), OreSolver.LARGE);
        desk = desk(SHIFT, "T^4", "T+x^5", "T+x^4", "T-x^3");
        due("divide with a large quotient", desk.divide(4, 5, 0, 1), OreSolver.LARGE);
        due("divide with a rest of degree 16", desk.divide(4, 5, 0, 2), OreSolver.LARGE);
        due("divide with a rest of degree 12", desk.divide(4, 5, 0, 3), 0);
        due("coefficient", desk.coefficient(5, 0, 12), 1);
        for (int none : NO_REGISTERS) {
            OreSolver one = desk;
            dueBad("divide", () -> one.divide(none, 1, 0, 3));
            dueBad("divide", () -> one.divide(0, none, 0, 3));
            dueBad("divide", () -> one.divide(0, 1, none, 3));
            dueBad("divide", () -> one.divide(0, 1, 0, none));
            dueBad("divide by 0", () -> one.divide(none, 1, 0, 7));
        }
    }

    private static void over() {
        promise = "promise 11";
        OreSolver desk = desk(DERIVATIVE, "T", "x", "xT^2-T+3", "x^2+1", "T^3", "x^4", "5");
        due("over", desk.over(7, 0, 1), 1);
        dueRegister(desk, 7, "xT+30");
        due("over", desk.over(7, 2, 3), 2);
        // q^3 L (1/q) q is q^3 L
        put(desk, 0, "(x^2+1)^3(xT^2-T+3)");
        desk.multiply(7, 7, 3);
        due("M q = q^3 L", desk.same(7, 0), true);
        due("over of degree 12", desk.over(7, 4, 5), 3);
        due("coefficient", desk.coefficient(7, 3, 12), 1);
        put(desk, 7, "xT^3");
        due("over of degree 13", desk.over(7, 7, 5), OreSolver.LARGE);
        dueRegister(desk, 7, "xT^3");
        OreSolver largest = desk(DERIVATIVE, "x^9x^3T^4", "x^9x^3", "T");
        due("over x^12", largest.over(7, 2, 1), 1);
        dueRegister(largest, 7, "x^12T+19x^11");
        due("over of degree 60", largest.over(7, 0, 1), OreSolver.LARGE);
        largest = desk(SHIFT, "x^9x^3T^4", "x^9x^3");
        due("over of degree 60", largest.over(7, 0, 1), OreSolver.LARGE);
        due("over a number", desk.over(7, 2, 6), 2);
        dueRegister(desk, 7, "25xT^2+6T+13");
        put(desk, 7, "x+2");
        due("over of a polynomial", desk.over(0, 7, 1), 0);
        dueRegister(desk, 0, "x+2");
        OreSolver shift = desk(SHIFT, "T-1", "x", "xT^2+3", "x^2+x", "T^4", "x^4");
        due("over", shift.over(7, 0, 1), 1);
        dueRegister(shift, 7, "xT+30x+30");
        due("over", shift.over(7, 2, 3), 2);
        shift.multiply(7, 7, 3);
        put(shift, 0, "(x^2+x)(x+1)(x+2)(x+2)(x+3)(xT^2+3)");
        due("M q = q q_1 q_2 L", shift.same(7, 0), true);
        due("over of degree 16", shift.over(7, 4, 5), OreSolver.LARGE);
        due("over in place", shift.over(1, 0, 1), 2);
        put(shift, 6, "0");
        due("over 0", shift.over(7, 2, 6), OreSolver.ORDER);
        due("over an operator", shift.over(7, 2, 4), OreSolver.ORDER);
        due("0 over x", shift.over(7, 6, 3), OreSolver.ORDER);
        due("0 over 0", shift.over(7, 6, 6), OreSolver.ORDER);
        for (int none : NO_REGISTERS) {
            dueBad("over", () -> shift.over(none, 0, 3));
            dueBad("over", () -> shift.over(0, none, 3));
            dueBad("over", () -> shift.over(0, 0, none));
            dueBad("over of 0", () -> shift.over(none, 6, 6));
        }
    }

    private static void solve() {
        promise = "promise 12";
        OreSolver desk = desk(DERIVATIVE, "xT-3", "x^5", "0", "x^3", "T", "T^2-1", "x^2-2");
        due("solve", desk.solve(0, 2, 12), 1);
        due("solve with too low a degree", desk.solve(0, 2, 2), 0);
        due("solve", desk.solve(0, 1, 12), 1);
        due("solve", desk.solve(0, 1, 4), OreSolver.NONE);
        due("solve without solutions", desk.solve(0, 3, 12), OreSolver.NONE);
        due("solve with 0 as the operator", desk.solve(2, 2, 12), 13);
        due("solve with 0 as the operator", desk.solve(2, 2, 0), 1);
        due("solve with 0 as the operator and no solution", desk.solve(2, 1, 12), OreSolver.NONE);
        due("solve with the operator as right side", desk.solve(4, 4, 12), OreSolver.ORDER);
        due("solve", desk.solve(4, 2, 0), 1);
        due("solve", desk.solve(5, 6, 12), 0);
        desk.pick(7, 0);
        dueRegister(desk, 7, "30x^2");
        for (int none : NO_REGISTERS) {
            dueBad("solve", () -> desk.solve(none, 2, 12));
            dueBad("solve", () -> desk.solve(0, none, 12));
        }
        for (int none : new int[] {-1, 13, Integer.MIN_VALUE, Integer.MAX_VALUE}) {
            dueBad("solve", () -> desk.solve(0, 2, none));
            dueBad("solve with an operator as right side", () -> desk.solve(0, 4, none));
        }
        OreSolver twelve = desk(DERIVATIVE, "x^9x^3", "0");
        due("solve with images of degree 24", twelve.solve(0, 1, 12), 0);
        due("solve with an image as right side", twelve.solve(0, 0, 12), 0);
        OreSolver shift = desk(SHIFT, "xT-x-5", "0", "T-1", "x^9x^2");
        due("solve", shift.solve(0, 1, 12), 1);
        due("solve", shift.solve(0, 1, 4), 0);
        due("solve", shift.solve(2, 3, 12), 1);
        due("solve", shift.solve(2, 3, 11), OreSolver.NONE);
    }

    private static void pick() {
        promise = "promise 13";
        OreSolver desk = desk(DERIVATIVE, "T^3", "x", "0", "5xT^2");
        due("solve", desk.solve(0, 1, 12), 3);
        due("pick", desk.pick(7, 0), 5);
        dueRegister(desk, 7, "22x^4");
        for (int i = 1; i <= 3; i++) {
            due("pick", desk.pick(7, i), i);
            dueRegister(desk, 7, i == 1 ? "1" : i == 2 ? "x" : "x^2");
        }
        due("pick behind the last", desk.pick(7, 4), OreSolver.BAD);
        due("pick(-1)", desk.pick(7, -1), OreSolver.BAD);
        due("pick", desk.pick(7, Integer.MAX_VALUE), OreSolver.BAD);
        due("solve that is refused", desk.solve(0, 3, 12), OreSolver.ORDER);
        due("solve that is refused", desk.solve(0, 1, 13), OreSolver.BAD);
        due("solve without solutions", desk.solve(2, 1, 12), OreSolver.NONE);
        due("pick of what was found before", desk.pick(0, 0), 5);
        due("pick into a register that held an operator", desk.order(0), 0);
        due("solve", desk.solve(3, 2, 3), 2);
        due("pick of the particular solution 0", desk.pick(7, 0), 0);
        due("pick", desk.pick(7, 3), OreSolver.BAD);
        for (int none : NO_REGISTERS) {
            dueBad("pick", () -> desk.pick(none, 0));
        }
        pickBases();
        OreSolver zeros = desk(SHIFT, "(T-1)^2", "x", "0");
        due("solve", zeros.solve(0, 1, 12), 2);
        due("pick", zeros.pick(7, 0), 4);
        due("coefficient at a degree of the basis", zeros.coefficient(7, 0, 0), 0);
        due("coefficient at a degree of the basis", zeros.coefficient(7, 0, 1), 0);
    }

    private static void pickBases() {
        OreSolver desk = desk(DERIVATIVE, "(x+1)T-3", "(x+1)^2T^2-2(x+1)T+2", "0", "(x+1)^3");
        due("solve", desk.solve(0, 2, 12), 1);
        due("pick", desk.pick(7, 1), 4);
        dueRegister(desk, 7, "x^3+3x^2+3x+1");
        due("solve", desk.solve(1, 2, 12), 2);
        due("pick", desk.pick(7, 1), 2);
        dueRegister(desk, 7, "x+1");
        due("pick", desk.pick(7, 2), 3);
        dueRegister(desk, 7, "x^2+30");
        // (x + 1)^3 / 2, less what it has at the degrees 1 and 2
        due("solve", desk.solve(1, 3, 12), 2);
        due("pick", desk.pick(7, 0), 4);
        dueRegister(desk, 7, "16x^3+16");
        OreSolver shift = desk(SHIFT, "xT-x-3", "0");
        due("solve", shift.solve(0, 1, 12), 1);
        due("pick", shift.pick(7, 1), 4);
        dueRegister(shift, 7, "x^3+3x^2+2x");
    }

    private static void factor() {
        promise = "promise 14";
        OreSolver desk = desk(DERIVATIVE, "T^2-1", "x", "0", "x(T-x)", "T^2-x^2-1", "(T-2x)(T-3)", "T");
        due("factor", desk.factor(0), 2);
        due("line", desk.line(0), 1);
        due("line", desk.line(1), 30);
        due("factor of a polynomial", desk.factor(1), 0);
        due("line", desk.line(0), OreSolver.BAD);
        due("factor of 0", desk.factor(2), OreSolver.ORDER);
        due("factor", desk.factor(3), 1);
        due("line", desk.line(0), 31);
        due("factor", desk.factor(4), 1);
        due("line", desk.line(0), 31);
        due("factor", desk.factor(5), 1);
        due("line", desk.line(0), 3);
        due("factor", desk.factor(6), 1);
        due("line", desk.line(0), 0);
        OreSolver shift = desk(SHIFT, "(T-x)(T-x)", "(T-2)(T-3)(T-4)(T-5)", "x^9x^3T^4", "T^2+1", "(T-x-1)(T-x)");
        due("factor", shift.factor(1), 4);
        for (int i = 0; i < 4; i++) {
            due("line", shift.line(i), 2 + i);
        }
        due("factor", shift.factor(2), 1);
        due("line", shift.line(0), 0);
        due("factor", shift.factor(3), 0);
        due("factor", shift.factor(0), 1);
        due("line", shift.line(0), 31);
        due("factor", shift.factor(4), 2);
        due("line", shift.line(0), 31);
        due("line", shift.line(1), 32);
        restsWithManyZeros();
        for (int none : NO_REGISTERS) {
            dueBad("factor", () -> shift.factor(none));
        }
    }

    /** The rest of a T^4 for x - 15 or so is 0 at 16 places, and still not the polynomial 0. */
    private static void restsWithManyZeros() {
        for (int first = 0; first < 31; first++) {
            OreSolver desk = desk(SHIFT, "x(x-1)(x-2)(x-3)(x-4)(x-5)", "T", "T^4");
            for (int n = 0; n < (31 - first) % 31; n++) {
                desk.apply(0, 1, 0);
            }
            desk.add(3, 4, 0, 1);
            for (int n = 0; n < 25; n++) {
                desk.apply(3, 1, 3);
            }
            desk.multiply(0, 0, 3);
            desk.multiply(0, 0, 2);
            due("factor", desk.factor(0), 1);
            due("line", desk.line(0), 0);
        }
    }

    private static void line() {
        promise = "promise 15";
        OreSolver desk = desk(SHIFT, "(T-1)(T-30)", "0");
        due("line before factor", desk.line(0), OreSolver.BAD);
        due("factor", desk.factor(0), 2);
        due("line", desk.line(0), 1);
        due("line", desk.line(1), 30);
        for (int none : new int[] {-1, 2, 961, Integer.MIN_VALUE, Integer.MAX_VALUE}) {
            dueBad("line", () -> desk.line(none));
        }
        due("factor that is refused", desk.factor(1), OreSolver.ORDER);
        due("factor that is refused", desk.factor(8), OreSolver.BAD);
        due("line as before", desk.line(1), 30);
        put(desk, 0, "T-30x-30");
        due("factor", desk.factor(0), 1);
        due("line", desk.line(0), 960);
        due("line", desk.line(1), OreSolver.BAD);
    }

    private static void same() {
        promise = "promise 16";
        OreSolver desk = desk(DERIVATIVE, "Tx", "xT+1", "xT", "x^9x^3T^4", "0");
        due("same", desk.same(0, 1), true);
        due("same", desk.same(0, 0), true);
        due("same", desk.same(0, 2), false);
        due("same", desk.same(3, 4), false);
        due("same", desk.same(4, 5), true);
        for (int none : NO_REGISTERS) {
            due("same", desk.same(none, 0), false);
            due("same", desk.same(0, none), false);
            due("same", desk.same(none, none), false);
        }
    }

    private static void show() {
        promise = "promise 17";
        OreSolver desk = desk(DERIVATIVE, "0", "1", "x", "T", "2xT", "30x^9x^3T^4+x^9x^3T+x^9x+10T^2+12", "T^2+2T+1", "x^2-x");
        String[] texts = {"0", "1", "x", "T", "2xT", "30x^12T^4+10T^2+x^12T+x^10+12", "T^2+2T+1", "x^2+30x"};
        for (int register = 0; register < 8; register++) {
            dueRegister(desk, register, texts[register]);
            due("length", desk.show(register), texts[register].length());
        }
        for (int none : NO_REGISTERS) {
            dueBad("show", () -> desk.show(none));
        }
        due("at behind a show that was refused", desk.at(0), 'x');
        due("at behind a show that was refused", desk.at(7), OreSolver.BAD);
        longestShow();
    }

    private static void longestShow() {
        OreSolver desk = desk(SHIFT, "x^9", "30x^4+30x^3+30x^2+30x+30", "30x^8+30x^7+30x^6+30x^5", "x^3", "T^4+T^3+T^2+T+1");
        desk.multiply(0, 0, 3);
        put(desk, 3, "30x^9+30x^9x+30x^9x^2");
        desk.add(0, 3, 0, 30);
        desk.add(0, 0, 1, 1);
        desk.add(0, 0, 2, 1);
        desk.multiply(0, 0, 4);
        StringBuilder want = new StringBuilder();
        for (int i = 4; i >= 0; i--) {
            for (int k = 12; k >= 0; k--) {
                want.append(want.length() == 0 ? "30" : "+30");
                want.append(k == 0 ? "" : k == 1 ? "x" : "x^" + k);
                want.append(i == 0 ? "" : i == 1 ? "T" : "T^" + i);
            }
        }
        dueRegister(desk, 0, want.toString());
    }

    private static void at() {
        promise = "promise 18";
        OreSolver desk = desk(DERIVATIVE, "x^9x^3T^4", "7");
        due("at before show", desk.at(0), OreSolver.BAD);
        due("show", desk.show(0), 7);
        String want = "x^12T^4";
        for (int i = 0; i < want.length(); i++) {
            due("at", desk.at(i), want.charAt(i));
        }
        for (int none : new int[] {-1, 7, 8, 650, 1000, Integer.MIN_VALUE, Integer.MAX_VALUE}) {
            dueBad("at", () -> desk.at(none));
        }
        due("show", desk.show(1), 1);
        due("at", desk.at(0), '7');
        due("at behind a shorter output", desk.at(1), OreSolver.BAD);
        put(desk, 1, "x");
        due("the output stays when the register changes", desk.at(0), '7');
    }

    private static void refusalsChangeNothing() {
        promise = "terms";
        OreSolver desk = desk(DERIVATIVE, "x^9T^3", "x^9+T^2", "xT", "x^7", "T+x^9", "0", "T^4", "x");
        String[] before = new String[8];
        for (int register = 0; register < 8; register++) {
            before[register] = shown(desk, register);
        }
        for (int to = 0; to < 8; to++) {
            due("multiply", desk.multiply(to, 0, 1), OreSolver.LARGE);
            due("apply", desk.apply(to, 1, 3), OreSolver.LARGE);
            due("apply", desk.apply(to, 1, 2), OreSolver.ORDER);
            due("divide", desk.divide(to, (to + 1) % 8, 6, 4), OreSolver.LARGE);
            due("divide", desk.divide(to, (to + 1) % 8, 6, 2), OreSolver.ORDER);
            due("over", desk.over(to, 6, 3), OreSolver.LARGE);
            due("over", desk.over(to, 5, 3), OreSolver.ORDER);
            due("pick", desk.pick(to, 0), OreSolver.BAD);
            due("add", desk.add(to, 0, 1, 31), OreSolver.BAD);
        }
        for (int register = 0; register < 8; register++) {
            dueRegister(desk, register, before[register]);
        }
    }
}
