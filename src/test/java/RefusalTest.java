import java.util.ArrayList;
import java.util.List;
import java.util.function.ToIntFunction;

/**
 * The two sentences under 'Terms' on refused calls: which answer comes first, and that nothing changes.
 */
public final class RefusalTest {
    private static final int SHIFT = Desk.SHIFT;
    private static final int DERIVATIVE = Desk.DERIVATIVE;
    private static final int BAD = OreSolver.BAD;
    private static final int SYNTAX = OreSolver.SYNTAX;
    private static final int LARGE = OreSolver.LARGE;
    private static final int NONE = OreSolver.NONE;
    private static final int ORDER = OreSolver.ORDER;
    private static final int LEAST = Integer.MIN_VALUE;
    private static final int GREATEST = Integer.MAX_VALUE;
    private static final int[] NO_REGISTERS = Desk.NO_REGISTERS;

    public static void main(String[] args) {
        for (int kind : Desk.KINDS) {
            refusalsInOrder(kind);
            refusalsChangeNothing(kind);
            falseChangesNothing(kind);
        }
        Due.end();
    }

    private static void refusalsInOrder(int kind) {
        Due.sentence("Calls answer the first of these that holds, in this order: "
            + "BAD when a register or another number is not as said; what else is said there; LARGE.");
        for (int none : NO_REGISTERS) {
            Desk desk = fullDesk(kind, "T^2-3*");
            Due.bad("read of wrong syntax", desk.read(none));
            Due.bad("apply to xT", desk.apply(none, 6, 3));
            Due.bad("apply to xT", desk.apply(6, none, 3));
            Due.bad("apply to degree 13", desk.apply(none, 6, 1));
            Due.bad("multiply to order 5", desk.multiply(none, 2, 0));
            Due.bad("divide by 0", desk.divide(none, 6, 2, 5));
            Due.bad("divide by 0", desk.divide(6, none, 2, 5));
            Due.bad("divide by 0", desk.divide(6, 7, none, 5));
            Due.bad("divide to degree 24", desk.divide(none, 6, 2, 7));
            Due.bad("divide to degree 24", desk.divide(6, none, 2, 7));
            Due.bad("over 0", desk.over(none, 2, 5));
            Due.bad("over 0", desk.over(6, none, 5));
            Due.bad("over of 0", desk.over(6, 5, none));
            Due.bad("over to degree 36", desk.over(none, 2, 4));
            Due.bad("solve for xT", desk.solve(none, 3, 12));
            Due.bad("solve 0 f = x^9", desk.solve(none, 4, 12));
            desk.put(7, "0");
            desk.clear();
            desk.write("T^5");
            Due.bad("read of a large text", desk.read(none));
        }
        Desk desk = fullDesk(kind, "T^5+x^9x^9*");
        Due.be("read of a large text of wrong syntax", desk.read(0), SYNTAX);
        for (String text : new String[] {"T^5)", "T^9^", "x^9x^9y", "(T^5", "T^5+", "x^9x^9)", "T^4T+(((((x)))))",
            "(T^5)^x", "T^9*"}) {
            Due.be("read of " + text, desk.put(0, text), SYNTAX);
        }
        Due.bad("divide into one by 0", desk.divide(6, 6, 2, 5));
        Due.bad("divide into one by xT", desk.divide(6, 6, 2, 3));
        Due.bad("divide into one to degree 24", desk.divide(6, 6, 2, 7));
        Due.be("apply x^12 to T + x^12", desk.apply(6, 1, 7), ORDER);
        Due.be("over T + x^12", desk.over(6, 2, 7), ORDER);
        Due.be("over of 0 by T + x^12", desk.over(6, 5, 7), ORDER);
        Due.bad("solve for xT up to 13", desk.solve(0, 3, 13));
        Due.bad("solve for xT up to -1", desk.solve(0, 3, -1));
        Due.bad("solve 0 f = x^9 up to 13", desk.solve(5, 4, 13));
        Due.bad("solve 0 f = x^9 up to -1", desk.solve(5, 4, -1));
        Due.be("solve 0 f = xT", desk.solve(5, 3, 12), ORDER);
        Due.bad("pick behind the last into no register", desk.pick(8, 4));
    }

    private static final String[] HELD = {"T+30x", "x^12", "T^4", "xT", "x^9", "0", "x+1", "T+x^12"};

    /** All that a desk can hold, so that each change can be seen. */
    private static Desk fullDesk(int kind, String text) {
        Desk desk = new Desk(kind, "T-x", "x^9x^3", "T^4", "xT", "x^9", "0", "x+1", "T+x^9x^3");
        Due.be("solve", desk.solve(5, 5, 2), 3);
        Due.be("factor", desk.factor(0), 1);
        Due.be("show", desk.show(6), 3);
        desk.clear();
        desk.write(text);
        return desk;
    }

    private static void dueUnchanged(Desk desk, String call, int length) {
        Due.be("at(0) behind " + call, desk.at(0), 'x');
        Due.be("at(1) behind " + call, desk.at(1), '+');
        Due.be("at(2) behind " + call, desk.at(2), '1');
        Due.be("at(3) behind " + call, desk.at(3), BAD);
        Due.be("line(0) behind " + call, desk.line(0), 31);
        Due.be("line(1) behind " + call, desk.line(1), BAD);
        for (int register = 0; register < 8; register++) {
            Due.be("register " + register + " behind " + call, desk.shown(register), HELD[register]);
        }
        for (int i = 0; i <= 3; i++) {
            Due.be("pick(" + i + ") behind " + call, desk.pick(i, i), i);
            Due.be("what pick(" + i + ") gave behind " + call, desk.shown(i), new String[] {"0", "1", "x", "x^2"}[i]);
        }
        Due.be("pick(4) behind " + call, desk.pick(4, 4), BAD);
        if (length < 40) {
            desk.write("x");
            Due.be("read behind " + call, desk.read(0), 3);
            Due.be("what was read behind " + call, desk.shown(0), "T^2+28x");
            length++;
        }
        Due.be("clear behind " + call, desk.clear(), length);
    }

    private static final class Refusal {
        final String name;
        final int answer;
        final ToIntFunction<Desk> call;

        Refusal(String name, int answer, ToIntFunction<Desk> call) {
            this.name = name;
            this.answer = answer;
            this.call = call;
        }
    }

    /** All refusals of calls that write the register to, as far as the registers are right. */
    private static List<Refusal> refusalsInto(int to) {
        List<Refusal> all = new ArrayList<>();
        int rest = (to + 1) % 8;
        all.add(new Refusal("read of wrong syntax", SYNTAX, d -> d.read(to)));
        all.add(new Refusal("add 31 times", BAD, d -> d.add(to, 0, 1, 31)));
        all.add(new Refusal("add -1 times", BAD, d -> d.add(to, 0, 1, -1)));
        all.add(new Refusal("multiply to order 5", LARGE, d -> d.multiply(to, 2, 0)));
        all.add(new Refusal("multiply to degree 21", LARGE, d -> d.multiply(to, 4, 1)));
        all.add(new Refusal("apply to xT", ORDER, d -> d.apply(to, 6, 3)));
        all.add(new Refusal("apply to degree 13", LARGE, d -> d.apply(to, 6, 1)));
        all.add(new Refusal("divide into one", BAD, d -> d.divide(to, to, 2, 0)));
        all.add(new Refusal("divide by 0", ORDER, d -> d.divide(to, rest, 2, 5)));
        all.add(new Refusal("divide by x^12", ORDER, d -> d.divide(to, rest, 2, 1)));
        all.add(new Refusal("divide by xT", ORDER, d -> d.divide(rest, to, 2, 3)));
        all.add(new Refusal("divide to a large quotient", LARGE, d -> d.divide(to, rest, 2, 7)));
        all.add(new Refusal("divide to a large rest", LARGE, d -> d.divide(to, rest, 3, 7)));
        all.add(new Refusal("divide to a large rest", LARGE, d -> d.divide(rest, to, 3, 7)));
        all.add(new Refusal("over 0", ORDER, d -> d.over(to, 2, 5)));
        all.add(new Refusal("over xT", ORDER, d -> d.over(to, 2, 3)));
        all.add(new Refusal("over of 0", ORDER, d -> d.over(to, 5, 6)));
        all.add(new Refusal("over to degree 36", LARGE, d -> d.over(to, 2, 4)));
        all.add(new Refusal("pick(-1)", BAD, d -> d.pick(to, -1)));
        all.add(new Refusal("pick(4)", BAD, d -> d.pick(to, 4)));
        return all;
    }

    /** All refusals that a wrong register brings. */
    private static List<Refusal> refusalsOf(int none) {
        List<Refusal> all = new ArrayList<>();
        all.add(new Refusal("read", BAD, d -> d.read(none)));
        all.add(new Refusal("order", -2, d -> d.order(none)));
        all.add(new Refusal("coefficient", BAD, d -> d.coefficient(none, 0, 0)));
        all.add(new Refusal("add to", BAD, d -> d.add(none, 0, 1, 1)));
        all.add(new Refusal("add a", BAD, d -> d.add(5, none, 1, 1)));
        all.add(new Refusal("add b", BAD, d -> d.add(5, 0, none, 1)));
        all.add(new Refusal("add b, 0 times", BAD, d -> d.add(5, 0, none, 0)));
        all.add(new Refusal("multiply to", BAD, d -> d.multiply(none, 0, 3)));
        all.add(new Refusal("multiply a", BAD, d -> d.multiply(5, none, 3)));
        all.add(new Refusal("multiply b", BAD, d -> d.multiply(5, 0, none)));
        all.add(new Refusal("apply to", BAD, d -> d.apply(none, 0, 6)));
        all.add(new Refusal("apply a", BAD, d -> d.apply(5, none, 6)));
        all.add(new Refusal("apply f", BAD, d -> d.apply(5, 0, none)));
        all.add(new Refusal("divide quotient", BAD, d -> d.divide(none, 5, 2, 0)));
        all.add(new Refusal("divide rest", BAD, d -> d.divide(5, none, 2, 0)));
        all.add(new Refusal("divide both", BAD, d -> d.divide(none, none, 2, 0)));
        all.add(new Refusal("divide a", BAD, d -> d.divide(5, 6, none, 0)));
        all.add(new Refusal("divide b", BAD, d -> d.divide(5, 6, 2, none)));
        all.add(new Refusal("over to", BAD, d -> d.over(none, 0, 6)));
        all.add(new Refusal("over a", BAD, d -> d.over(5, none, 6)));
        all.add(new Refusal("over b", BAD, d -> d.over(5, 0, none)));
        all.add(new Refusal("solve a", BAD, d -> d.solve(none, 5, 3)));
        all.add(new Refusal("solve g", BAD, d -> d.solve(5, none, 3)));
        all.add(new Refusal("pick to", BAD, d -> d.pick(none, 1)));
        all.add(new Refusal("factor", BAD, d -> d.factor(none)));
        all.add(new Refusal("show", BAD, d -> d.show(none)));
        return all;
    }

    /** Refusals that a number brings which is no register, and those that write no register. */
    private static List<Refusal> refusalsOfNumbers() {
        List<Refusal> all = new ArrayList<>();
        for (int none : new int[] {-1, 5, LEAST, GREATEST}) {
            all.add(new Refusal("coefficient of T^" + none, BAD, d -> d.coefficient(0, none, 0)));
        }
        for (int none : new int[] {-1, 13, LEAST, GREATEST}) {
            all.add(new Refusal("coefficient of x^" + none, BAD, d -> d.coefficient(0, 0, none)));
            all.add(new Refusal("solve up to " + none, BAD, d -> d.solve(5, 5, none)));
        }
        for (int none : new int[] {-1, 1, LEAST, GREATEST}) {
            all.add(new Refusal("line(" + none + ")", BAD, d -> d.line(none)));
        }
        for (int none : new int[] {-1, 3, LEAST, GREATEST}) {
            all.add(new Refusal("at(" + none + ")", BAD, d -> d.at(none)));
        }
        all.add(new Refusal("order of 0", -1, d -> d.order(5)));
        all.add(new Refusal("solve for xT", ORDER, d -> d.solve(0, 3, 12)));
        all.add(new Refusal("solve 0 f = x^9", NONE, d -> d.solve(5, 4, 12)));
        all.add(new Refusal("solve x^12 f = x^9", NONE, d -> d.solve(1, 4, 12)));
        all.add(new Refusal("factor of 0", ORDER, d -> d.factor(5)));
        return all;
    }

    private static void refusalsChangeNothing(int kind) {
        Due.sentence("A call that answers less than 0 changes nothing.");
        for (int to = 0; to < 8; to++) {
            for (Refusal refusal : refusalsInto(to)) {
                dueRefusalChangesNothing(kind, refusal, "into " + to);
            }
        }
        for (int none : NO_REGISTERS) {
            for (Refusal refusal : refusalsOf(none)) {
                dueRefusalChangesNothing(kind, refusal, "with register " + none);
            }
        }
        for (Refusal refusal : refusalsOfNumbers()) {
            dueRefusalChangesNothing(kind, refusal, "");
        }
        readChangesNothing(kind);
    }

    private static void dueRefusalChangesNothing(int kind, Refusal refusal, String where) {
        String call = refusal.name + " " + where;
        Desk desk = fullDesk(kind, "T^2-3");
        if (refusal.answer == SYNTAX) {
            desk = fullDesk(kind, "T^2-3*");
        }
        Due.be(call, refusal.call.applyAsInt(desk), refusal.answer);
        dueUnchanged(desk, call, refusal.answer == SYNTAX ? 6 : 5);
    }

    private static void readChangesNothing(int kind) {
        for (int to = 0; to < 8; to++) {
            Desk desk = fullDesk(kind, "T^2+3(T+x^9)(x+x^9)+1");
            Due.be("read of a large text", desk.read(to), LARGE);
            dueUnchangedRegisters(desk);
            Due.be("clear", desk.clear(), 21);
            Due.be("read of no text", desk.read(to), SYNTAX);
            dueUnchangedRegisters(desk);
            Due.be("clear", desk.clear(), 0);
        }
    }

    private static void dueUnchangedRegisters(Desk desk) {
        for (int register = 0; register < 8; register++) {
            Due.hold(desk, register, HELD[register]);
        }
    }

    private static void falseChangesNothing(int kind) {
        Due.sentence("A call that answers false changes nothing.");
        for (int code : new int[] {0, 9, 10, 32, 127, 160, 255, 65535}) {
            Desk desk = fullDesk(kind, "T^2-3");
            Due.be("type of code " + code, desk.type((char) code), false);
            dueUnchanged(desk, "type", 5);
        }
        Desk desk = fullDesk(kind, "1+1+1+1+1+1+1+1+1+1+1+1+1+1+1+1+1+1+1+x2");
        Due.be("type of character 41", desk.type('x'), false);
        dueUnchanged(desk, "type", 40);
        for (int none : NO_REGISTERS) {
            desk = fullDesk(kind, "T^2-3");
            Due.be("same", desk.same(none, 0), false);
            Due.be("same", desk.same(0, none), false);
            Due.be("same", desk.same(none, none), false);
            dueUnchanged(desk, "same", 5);
        }
        desk = fullDesk(kind, "T^2-3");
        Due.be("same of two operators", desk.same(0, 1), false);
        dueUnchanged(desk, "same", 5);
    }
}
