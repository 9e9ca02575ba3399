import java.math.BigInteger;
import java.util.ArrayList;
import java.util.Arrays;
import java.util.List;
import java.util.Map;
import java.util.Random;
import java.util.TreeMap;
import java.util.function.Predicate;

/**
 * Long runs of calls, from fixed seeds, against a model that reckons in other ways: products by the rule for T^i x^k,
 * over by dividing q^(n+1) L by q from the right, solutions by reducing images one by one, factors by the rest of a
 * division. Behind a run every register is compared, each on a desk of its own on which the run is made again, as a
 * desk has too few calls for all of them.
 */
public final class ModelTest {
    private static final int P = 31;
    private static final int BAD = -1;
    private static final int SYNTAX = -2;
    private static final int LARGE = -3;
    private static final int NONE = -4;
    private static final int ORDER = -5;

    private static int wrong = 0;
    private static final Map<String, Integer> answers = new TreeMap<>();

    public static void main(String[] args) {
        int runs = args.length > 0 ? Integer.parseInt(args[0]) : 1000;
        for (int seed = 0; seed < runs && wrong < 5; seed++) {
            new Run(seed).go();
        }
        System.out.println(runs + " runs, " + wrong + " wrong");
        if (args.length > 0) {
            System.out.println(answers);
        }
        if (wrong != 0) {
            System.exit(1);
        }
    }

    private static int mod(long n) {
        return (int) Math.floorMod(n, (long) P);
    }

    private static int inverse(int n) {
        return BigInteger.valueOf(n).modInverse(BigInteger.valueOf(P)).intValue();
    }

    /** An operator of any size: (i, k) to the coefficient of x^k T^i. */
    private static final class Op {
        final TreeMap<Integer, Integer> terms = new TreeMap<>();

        static Op term(int c, int k, int i) {
            Op op = new Op();
            op.raise(i, k, c);
            return op;
        }

        int at(int i, int k) {
            return terms.getOrDefault(i * 1000 + k, 0);
        }

        void raise(int i, int k, long c) {
            int sum = mod(at(i, k) + c);
            if (sum == 0) {
                terms.remove(i * 1000 + k);
            } else {
                terms.put(i * 1000 + k, sum);
            }
        }

        int order() {
            return terms.isEmpty() ? -1 : terms.lastKey() / 1000;
        }

        int degree(int i) {
            Integer key = terms.floorKey(i * 1000 + 999);
            return key == null || key / 1000 != i ? -1 : key % 1000;
        }

        boolean fits() {
            for (int key : terms.keySet()) {
                if (key / 1000 > 4 || key % 1000 > 12) {
                    return false;
                }
            }
            return true;
        }

        Op plus(Op other, long times) {
            Op sum = new Op();
            sum.terms.putAll(terms);
            other.terms.forEach((key, c) -> sum.raise(key / 1000, key % 1000, times * c));
            return sum;
        }

        Op row(int i) {
            Op row = new Op();
            terms.forEach((key, c) -> {
                if (key / 1000 == i) {
                    row.raise(0, key % 1000, c);
                }
            });
            return row;
        }

        String shown() {
            StringBuilder text = new StringBuilder();
            for (int key : terms.descendingKeySet()) {
                int i = key / 1000;
                int k = key % 1000;
                int c = terms.get(key);
                String powers = (k == 0 ? "" : k == 1 ? "x" : "x^" + k) + (i == 0 ? "" : i == 1 ? "T" : "T^" + i);
                text.append(text.length() == 0 ? "" : "+");
                text.append(c == 1 && !powers.isEmpty() ? powers : c + powers);
            }
            return text.length() == 0 ? "0" : text.toString();
        }
    }

    private static int binomial(int n, int k) {
        BigInteger value = BigInteger.ONE;
        for (int j = 0; j < k; j++) {
            value = value.multiply(BigInteger.valueOf(n - j)).divide(BigInteger.valueOf(j + 1));
        }
        return value.mod(BigInteger.valueOf(P)).intValue();
    }

    private static int falling(int n, int k) {
        long value = 1;
        for (int j = 0; j < k; j++) {
            value = mod(value * (n - j));
        }
        return (int) value;
    }

    private static int power(int base, int exponent) {
        return BigInteger.valueOf(base).pow(exponent).mod(BigInteger.valueOf(P)).intValue();
    }

    /** Adds c x^k T^i times d x^l T^j. */
    private static void addProduct(Op sum, boolean shift, int[] left, int[] right) {
        int c = mod((long) left[2] * right[2]);
        int i = left[0];
        int l = right[1];
        if (shift) {
            for (int m = 0; m <= l; m++) {
                sum.raise(i + right[0], left[1] + m, (long) c * binomial(l, m) * power(i, l - m));
            }
        } else {
            for (int m = 0; m <= Math.min(i, l); m++) {
                sum.raise(i - m + right[0], left[1] + l - m, (long) c * binomial(i, m) * falling(l, m));
            }
        }
    }

    private static Op product(boolean shift, Op a, Op b) {
        Op sum = new Op();
        a.terms.forEach((m, c) -> b.terms.forEach((n, d) ->
            addProduct(sum, shift, new int[] {m / 1000, m % 1000, c}, new int[] {n / 1000, n % 1000, d})));
        return sum;
    }

    /** What a makes of the polynomial f: in the product what stands before T^i is left out or loses its T. */
    private static Op image(boolean shift, Op a, Op f) {
        Op product = product(shift, a, f);
        if (!shift) {
            return product.row(0);
        }
        Op sum = new Op();
        product.terms.forEach((key, c) -> sum.raise(0, key % 1000, c));
        return sum;
    }

    /** Q and R; b has a number as its first coefficient. */
    private static Op[] division(boolean shift, Op a, Op b) {
        Op quotient = new Op();
        Op rest = a;
        int n = b.order();
        int inverse = inverse(b.at(n, 0));
        while (rest.order() >= n) {
            int i = rest.order();
            int k = rest.degree(i);
            Op step = Op.term(rest.at(i, k) * inverse, k, i - n);
            quotient = quotient.plus(step, 1);
            rest = rest.plus(product(shift, step, b), -1);
        }
        return new Op[] {quotient, rest};
    }

    /** The M for which M q is q^(n+1) L, or q q_1 .. q_n L. */
    private static Op cleared(boolean shift, Op a, Op q) {
        int n = a.order();
        Op rest = a;
        for (int j = 0; j <= n; j++) {
            Op moved = new Op();
            if (shift) {
                product(true, Op.term(1, 0, j), q).terms.forEach((key, c) -> moved.raise(0, key % 1000, c));
            }
            rest = product(shift, shift ? moved : q, rest);
        }
        Op whole = new Op();
        while (rest.order() >= 0) {
            int i = rest.order();
            int k = rest.degree(i) - q.degree(0);
            Op step = Op.term(rest.at(i, rest.degree(i)) * inverse(q.at(0, q.degree(0))), k, i);
            whole = whole.plus(step, 1);
            rest = rest.plus(product(shift, step, q), -1);
        }
        return whole;
    }

    /** The particular solution and the basis, or null. */
    private static List<Op> solutions(boolean shift, Op a, Op g, int d) {
        List<Op> images = new ArrayList<>();
        List<Op> sources = new ArrayList<>();
        List<Op> basis = new ArrayList<>();
        for (int k = 0; k <= d; k++) {
            Op[] reduced = reduce(image(shift, a, Op.term(1, k, 0)), Op.term(1, k, 0), images, sources);
            if (reduced[0].order() < 0) {
                basis.add(withZeros(reduced[1], basis));
            } else {
                images.add(reduced[0]);
                sources.add(reduced[1]);
            }
        }
        Op[] reduced = reduce(g, new Op(), images, sources);
        if (reduced[0].order() >= 0) {
            return null;
        }
        basis.add(0, withZeros(new Op().plus(reduced[1], -1), basis));
        return basis;
    }

    private static Op[] reduce(Op value, Op source, List<Op> images, List<Op> sources) {
        for (boolean changed = true; changed;) {
            changed = false;
            for (int j = 0; j < images.size(); j++) {
                int top = images.get(j).degree(0);
                int c = mod((long) value.at(0, top) * inverse(images.get(j).at(0, top)));
                if (c != 0) {
                    value = value.plus(images.get(j), -c);
                    source = source.plus(sources.get(j), -c);
                    changed = true;
                }
            }
        }
        return new Op[] {value, source};
    }

    private static Op withZeros(Op f, List<Op> basis) {
        Op result = f;
        for (int j = basis.size() - 1; j >= 0; j--) {
            result = result.plus(basis.get(j), -result.at(0, basis.get(j).degree(0)));
        }
        return result;
    }

    private static List<Integer> lines(boolean shift, Op a) {
        List<Integer> pairs = new ArrayList<>();
        for (int c = 0; c < P; c++) {
            for (int e = 0; e < P; e++) {
                Op line = Op.term(1, 0, 1).plus(Op.term(c, 1, 0), -1).plus(Op.term(e, 0, 0), -1);
                if (division(shift, a, line)[1].order() < 0) {
                    pairs.add(31 * c + e);
                }
            }
        }
        return pairs;
    }

    /** Reads by cutting texts apart, with all values kept; throws ArithmeticException for what is no sum. */
    private static final class Grammar {
        final boolean shift;
        boolean large = false;

        Grammar(boolean shift) {
            this.shift = shift;
        }

        private Op seen(Op value) {
            large = large || !value.fits();
            return value;
        }

        Op sum(String text, int open) {
            if (open > 4 || text.isEmpty()) {
                throw new ArithmeticException();
            }
            String signed = text.charAt(0) == '+' || text.charAt(0) == '-' ? text : "+" + text;
            Op sum = new Op();
            int start = 0;
            while (start < signed.length()) {
                int end = start + 1;
                int depth = 0;
                while (end < signed.length() && (depth > 0 || "+-".indexOf(signed.charAt(end)) < 0)) {
                    depth += signed.charAt(end) == '(' ? 1 : signed.charAt(end) == ')' ? -1 : 0;
                    end++;
                }
                Op next = factors(signed.substring(start + 1, end), open);
                sum = seen(sum.plus(next, signed.charAt(start) == '-' ? -1 : 1));
                start = end;
            }
            return sum;
        }

        private Op factors(String text, int open) {
            Op product = Op.term(1, 0, 0);
            int start = 0;
            boolean more = true;
            while (more) {
                int end = atomEnd(text, start);
                Op atom = seen(atom(text.substring(start, end), open));
                if (end < text.length() && text.charAt(end) == '^') {
                    if (end + 1 >= text.length() || !Character.isDigit(text.charAt(end + 1))) {
                        throw new ArithmeticException();
                    }
                    Op power = Op.term(1, 0, 0);
                    for (int n = 0; n < text.charAt(end + 1) - '0' && !large; n++) {
                        power = product(shift, power, atom);
                    }
                    atom = seen(power);
                    end += 2;
                }
                product = large ? product : seen(product(shift, product, atom));
                more = end < text.length();
                start = more && text.charAt(end) == '*' ? end + 1 : end;
            }
            return product;
        }

        private static int atomEnd(String text, int start) {
            int end = start;
            while (end < text.length() && Character.isDigit(text.charAt(end))) {
                end++;
            }
            if (end > start) {
                return end;
            }
            if (start >= text.length() || "xT(".indexOf(text.charAt(start)) < 0) {
                throw new ArithmeticException();
            }
            if (text.charAt(start) != '(') {
                return start + 1;
            }
            int depth = 0;
            for (end = start; end < text.length(); end++) {
                depth += text.charAt(end) == '(' ? 1 : text.charAt(end) == ')' ? -1 : 0;
                if (depth == 0) {
                    return end + 1;
                }
            }
            throw new ArithmeticException();
        }

        private Op atom(String text, int open) {
            if (text.equals("x")) {
                return Op.term(1, 1, 0);
            }
            if (text.equals("T")) {
                return Op.term(1, 0, 1);
            }
            if (text.charAt(0) == '(') {
                return sum(text.substring(1, text.length() - 1), open + 1);
            }
            return Op.term(new BigInteger(text).mod(BigInteger.valueOf(P)).intValue(), 0, 0);
        }
    }

    /** The desk as the document tells it. */
    private static final class Model {
        final boolean shift;
        final Op[] registers = new Op[8];
        String text = "";
        List<Op> solved = new ArrayList<>();
        List<Integer> factored = new ArrayList<>();
        String output = "";

        Model(int kind) {
            shift = kind != 0;
            Arrays.setAll(registers, r -> new Op());
        }

        static boolean none(int... numbers) {
            for (int r : numbers) {
                if (r < 0 || r > 7) {
                    return true;
                }
            }
            return false;
        }

        int keep(int to, Op value, int answer) {
            if (!value.fits()) {
                return LARGE;
            }
            registers[to] = value;
            return answer;
        }

        int call(String name, int[] n) {
            switch (name) {
                case "type":
                    if (text.length() >= 40 || n[0] < 33 || n[0] > 126) {
                        return 0;
                    }
                    text += (char) n[0];
                    return 1;
                case "clear":
                    int had = text.length();
                    text = "";
                    return had;
                case "read":
                    return none(n[0]) ? BAD : read(n[0]);
                case "order":
                    return none(n[0]) ? -2 : registers[n[0]].order();
                case "coefficient":
                    boolean outside = n[1] < 0 || n[1] > 4 || n[2] < 0 || n[2] > 12;
                    return none(n[0]) || outside ? BAD : registers[n[0]].at(n[1], n[2]);
                case "add":
                    if (none(n[0], n[1], n[2]) || n[3] < 0 || n[3] > 30) {
                        return BAD;
                    }
                    return keep(n[0], registers[n[1]].plus(registers[n[2]], n[3]), 0);
                case "multiply":
                    return none(n) ? BAD : keep(n[0], product(shift, registers[n[1]], registers[n[2]]), 0);
                case "apply":
                    if (none(n)) {
                        return BAD;
                    }
                    if (registers[n[2]].order() > 0) {
                        return ORDER;
                    }
                    return keep(n[0], image(shift, registers[n[1]], registers[n[2]]), 0);
                case "divide":
                    return none(n) || n[0] == n[1] ? BAD : divide(n);
                case "over":
                    return none(n) ? BAD : over(n);
                case "solve":
                    return none(n[0], n[1]) || n[2] < 0 || n[2] > 12 ? BAD : solve(n);
                case "pick":
                    if (none(n[0]) || n[1] < 0 || n[1] >= solved.size()) {
                        return BAD;
                    }
                    registers[n[0]] = solved.get(n[1]);
                    return registers[n[0]].degree(0) + 1;
                case "factor":
                    if (none(n[0])) {
                        return BAD;
                    }
                    if (registers[n[0]].order() < 0) {
                        return ORDER;
                    }
                    factored = lines(shift, registers[n[0]]);
                    return factored.size();
                case "line":
                    return n[0] < 0 || n[0] >= factored.size() ? BAD : factored.get(n[0]);
                case "same":
                    return !none(n) && registers[n[0]].terms.equals(registers[n[1]].terms) ? 1 : 0;
                case "show":
                    if (none(n[0])) {
                        return BAD;
                    }
                    output = registers[n[0]].shown();
                    return output.length();
                case "at":
                    return n[0] < 0 || n[0] >= output.length() ? BAD : output.charAt(n[0]);
                default:
                    throw new IllegalArgumentException(name);
            }
        }

        private int read(int to) {
            Grammar grammar = new Grammar(shift);
            Op value;
            try {
                value = grammar.sum(text, 0);
            } catch (ArithmeticException e) {
                return SYNTAX;
            }
            return grammar.large ? LARGE : keep(to, value, value.order() + 1);
        }

        private int divide(int[] n) {
            Op b = registers[n[3]];
            if (b.order() < 0 || b.degree(b.order()) != 0) {
                return ORDER;
            }
            Op[] results = division(shift, registers[n[2]], b);
            if (!results[0].fits() || !results[1].fits()) {
                return LARGE;
            }
            registers[n[0]] = results[0];
            registers[n[1]] = results[1];
            return 0;
        }

        private int over(int[] n) {
            if (registers[n[2]].order() != 0 || registers[n[1]].order() < 0) {
                return ORDER;
            }
            Op whole = cleared(shift, registers[n[1]], registers[n[2]]);
            return keep(n[0], whole, whole.order());
        }

        private int solve(int[] n) {
            if (registers[n[1]].order() > 0) {
                return ORDER;
            }
            List<Op> found = solutions(shift, registers[n[0]], registers[n[1]], n[2]);
            if (found == null) {
                return NONE;
            }
            solved = found;
            return found.size() - 1;
        }
    }

    private static int ask(Desk desk, String name, int[] n) {
        switch (name) {
            case "type": return desk.type((char) n[0]) ? 1 : 0;
            case "clear": return desk.clear();
            case "read": return desk.read(n[0]);
            case "order": return desk.order(n[0]);
            case "coefficient": return desk.coefficient(n[0], n[1], n[2]);
            case "add": return desk.add(n[0], n[1], n[2], n[3]);
            case "multiply": return desk.multiply(n[0], n[1], n[2]);
            case "apply": return desk.apply(n[0], n[1], n[2]);
            case "divide": return desk.divide(n[0], n[1], n[2], n[3]);
            case "over": return desk.over(n[0], n[1], n[2]);
            case "solve": return desk.solve(n[0], n[1], n[2]);
            case "pick": return desk.pick(n[0], n[1]);
            case "factor": return desk.factor(n[0]);
            case "line": return desk.line(n[0]);
            case "same": return desk.same(n[0], n[1]) ? 1 : 0;
            case "show": return desk.show(n[0]);
            case "at": return desk.at(n[0]);
            default: throw new IllegalArgumentException(name);
        }
    }

    /** One run of calls, of a length that leaves the desk enough of them for the coefficients of one register. */
    private static final class Run {
        private static final int COEFFICIENTS = 5 * 13;

        final int seed;
        final int kind;
        final int length;
        final Random random;
        final Desk desk;
        final Model model;
        final List<String> names = new ArrayList<>();
        final List<int[]> numbers = new ArrayList<>();
        final List<Integer> due = new ArrayList<>();
        boolean failed = false;

        Run(int seed) {
            this.seed = seed;
            random = new Random(seed);
            kind = seed % 2 == 0 ? 0 : seed % 3 + 1;
            length = seed % 4 < 2 ? Desk.CALLS - COEFFICIENTS : 50 + random.nextInt(200);
            desk = new Desk(kind);
            model = new Model(kind);
        }

        private void tell(String fault) {
            failed = true;
            wrong++;
            System.out.println("seed " + seed + ": " + fault + " behind these, with what is due:");
            System.out.println("new OreSolver(" + kind + ")");
            for (int call = 0; call < names.size(); call++) {
                System.out.println(names.get(call) + Arrays.toString(numbers.get(call)) + " = " + due.get(call));
            }
        }

        private int both(String name, int... n) {
            if (failed || names.size() >= length) {
                return 0;
            }
            int want = model.call(name, n);
            names.add(name);
            numbers.add(n);
            due.add(want);
            answers.merge(name + " " + Math.min(want, 3), 1, Integer::sum);
            int got = ask(desk, name, n);
            if (got != want) {
                tell("answered " + got);
            }
            return want;
        }

        private void compareRegister(int register) {
            Desk again = new Desk(kind);
            for (int call = 0; call < names.size(); call++) {
                ask(again, names.get(call), numbers.get(call));
            }
            for (int place = 0; place < COEFFICIENTS && !failed; place++) {
                int i = place / 13;
                int k = place % 13;
                int got = again.coefficient(register, i, k);
                if (got != model.registers[register].at(i, k)) {
                    tell("register " + register + " has " + got + " at x^" + k + " T^" + i);
                }
            }
        }

        /** Most faults in a result show in its text, before the register is written again. */
        private void glance(int register) {
            int length = both("show", register);
            both("at", random.nextInt(Math.max(length, 0) + 1));
            both("at", length - 1);
        }

        private void write(String name, int... n) {
            both(name, n);
            glance(n[0]);
            if (name.equals("divide")) {
                glance(n[1]);
            }
        }

        private int register() {
            return random.nextInt(60) == 0 ? (random.nextBoolean() ? 8 : -1) : random.nextInt(8);
        }

        /** Mostly a register that holds what the call is made for, if there is one. */
        private int holding(Predicate<Op> wish) {
            List<Integer> right = new ArrayList<>();
            for (int r = 0; r < 8; r++) {
                if (wish.test(model.registers[r])) {
                    right.add(r);
                }
            }
            boolean any = right.isEmpty() || random.nextInt(6) == 0;
            return any ? register() : right.get(random.nextInt(right.size()));
        }

        private int operator() {
            return holding(op -> op.order() >= 0);
        }

        private int polynomial() {
            return holding(op -> op.order() == 0);
        }

        private int divisor() {
            return holding(op -> op.order() > 0 && op.degree(op.order()) == 0);
        }

        private String atom(int depth) {
            switch (random.nextInt(depth < 3 ? 6 : 5)) {
                case 0: return Integer.toString(random.nextInt(40));
                case 1: case 2: return "x";
                case 3: case 4: return "T";
                default: return "(" + sum(depth + 1) + ")";
            }
        }

        private String sum(int depth) {
            StringBuilder text = new StringBuilder(random.nextInt(4) == 0 ? "-" : "");
            int products = 1 + random.nextInt(3);
            for (int n = 0; n < products; n++) {
                text.append(n == 0 ? "" : random.nextBoolean() ? "+" : "-");
                int powers = 1 + random.nextInt(2);
                for (int m = 0; m < powers; m++) {
                    text.append(m > 0 && random.nextInt(4) == 0 ? "*" : "").append(atom(depth));
                    text.append(random.nextInt(4) == 0 ? "^" + random.nextInt(random.nextInt(4) == 0 ? 10 : 4) : "");
                }
            }
            return text.toString();
        }

        private String plainText() {
            int shifted = random.nextInt(31);
            switch (random.nextInt(8)) {
                case 6: return "(x+" + shifted + ")T-" + (model.shift ? "x-" : "") + random.nextInt(31);
                case 7: return "(x+" + shifted + ")^2T^2-2(x+" + shifted + ")T+2";
                case 0: return "(T-" + shifted + "x-" + random.nextInt(31) + ")(T-" + random.nextInt(31) + ")";
                case 1: return "x^" + random.nextInt(10) + "+" + random.nextInt(31) + "x-" + random.nextInt(31);
                case 2: return "xT-" + random.nextInt(13);
                case 3: return "(T-" + random.nextInt(4) + ")^" + random.nextInt(4);
                case 4: return "T^" + random.nextInt(4) + "+" + random.nextInt(31) + "x^" + random.nextInt(8);
                default: return "x^2T^2-" + random.nextInt(31) + "xT+" + random.nextInt(31);
            }
        }

        private void typeText() {
            String text = random.nextInt(3) == 0 ? plainText() : sum(0);
            if (random.nextInt(6) == 0) {
                int place = random.nextInt(text.length() + 1);
                String noise = "+-*^()xT039y ";
                text = text.substring(0, place) + noise.charAt(random.nextInt(noise.length())) + text.substring(place);
            }
            if (random.nextInt(12) != 0) {
                both("clear");
            }
            for (int n = 0; n < text.length(); n++) {
                both("type", text.charAt(n));
            }
            write("read", register());
        }

        private void solveAndPick() {
            int right = random.nextInt(3) == 0 ? register() : polynomial();
            int dimension = both("solve", operator(), right, random.nextInt(15) - 1);
            for (int i = 0; i <= dimension + 1; i += 1 + random.nextInt(4)) {
                write("pick", register(), i);
            }
        }

        private void factorAndLine() {
            int count = random.nextInt(3) > 0 ? 0 : both("factor", operator());
            for (int i = -1; i <= count; i++) {
                both("line", i);
            }
        }

        void go() {
            while (names.size() < length && !failed) {
                switch (random.nextInt(18)) {
                    case 0: case 1: case 2: typeText(); break;
                    case 3: case 4: write("add", register(), register(), operator(), random.nextInt(33) - 1); break;
                    case 5: case 6: write("multiply", register(), operator(), operator()); break;
                    case 7: write("apply", register(), operator(), polynomial()); break;
                    case 8: case 9: write("divide", register(), register(), operator(), divisor()); break;
                    case 10: case 11: write("over", register(), operator(), polynomial()); break;
                    case 12: case 13: solveAndPick(); break;
                    case 14:
                        factorAndLine();
                        break;
                    case 15: both("same", operator(), operator()); break;
                    case 16:
                        int length = both("show", register());
                        both("at", random.nextInt(length + 3) - 1);
                        break;
                    default:
                        both("order", operator());
                        both("coefficient", operator(), random.nextInt(7) - 1, random.nextInt(15) - 1);
                }
            }
            for (int register = 0; register < 8 && !failed; register++) {
                compareRegister(register);
            }
        }
    }
}
