import java.util.Arrays;

/**
 * A desk for linear equations with polynomial coefficients modulo 31, differential ones or recurrences.
 *
 * Every table that a call needs is made with the desk and used again, so that no call makes objects.
 */
public final class OreSolver {
    public static final int BAD = -1;
    public static final int SYNTAX = -2;
    public static final int LARGE = -3;
    public static final int NONE = -4;
    public static final int ORDER = -5;

    private static final int NO_REGISTER = -2;
    private static final int MODULUS = 31;
    private static final int REGISTERS = 8;
    private static final int TOP_ORDER = 4;
    private static final int TOP_DEGREE = 12;
    private static final int ORDERS = TOP_ORDER + 1;
    private static final int WIDTH = TOP_DEGREE + 1;
    private static final int DOUBLE_ORDERS = 2 * TOP_ORDER + 1;
    private static final int DOUBLE_WIDTH = 2 * TOP_DEGREE + 1;
    // A coefficient times the product of as many denominators as the greatest order.
    private static final int FRACTION_WIDTH = (TOP_ORDER + 1) * TOP_DEGREE + 1;
    private static final int TEXT_LIMIT = 40;
    private static final int OPEN_LIMIT = 4;
    private static final char FIRST_SYMBOL = 33;
    private static final char LAST_SYMBOL = 126;

    private final Operator[] registers = new Operator[REGISTERS];
    private final Algebra algebra;
    private final Parser parser;
    private final Division division;
    private final Fractions fractions;
    private final Equations equations;
    private final Lines lines;
    private final Output output = new Output();

    public OreSolver(int kind) {
        for (int r = 0; r < REGISTERS; r++) {
            registers[r] = new Operator(ORDERS, WIDTH);
        }
        algebra = new Algebra(kind != 0);
        parser = new Parser(algebra);
        division = new Division(algebra);
        fractions = new Fractions(algebra);
        equations = new Equations(algebra);
        lines = new Lines(algebra);
    }

    public boolean type(char c) {
        if (c < FIRST_SYMBOL || c > LAST_SYMBOL) {
            return false;
        }
        return parser.keep(c);
    }

    public int clear() {
        return parser.forget();
    }

    public int read(int register) {
        if (!isRegister(register)) {
            return BAD;
        }
        int fault = parser.parse();
        if (fault != 0) {
            return fault;
        }
        registers[register].become(parser.value());
        return registers[register].topOrder() + 1;
    }

    public int order(int register) {
        return isRegister(register) ? registers[register].topOrder() : NO_REGISTER;
    }

    public int coefficient(int register, int i, int k) {
        if (!isRegister(register) || !isWithin(i, TOP_ORDER) || !isWithin(k, TOP_DEGREE)) {
            return BAD;
        }
        return registers[register].get(i, k);
    }

    public int add(int to, int a, int b, int times) {
        if (!areRegisters(to, a, b) || !isWithin(times, MODULUS - 1)) {
            return BAD;
        }
        Operator sum = algebra.sum(registers[a], registers[b], times);
        return store(to, sum);
    }

    public int multiply(int to, int a, int b) {
        if (!areRegisters(to, a, b)) {
            return BAD;
        }
        return store(to, algebra.product(registers[a], registers[b]));
    }

    public int apply(int to, int a, int f) {
        if (!areRegisters(to, a, f)) {
            return BAD;
        }
        if (registers[f].topOrder() > 0) {
            return ORDER;
        }
        return store(to, algebra.image(registers[a], registers[f]));
    }

    public int divide(int quotient, int rest, int a, int b) {
        if (!areRegisters(quotient, rest, a) || !isRegister(b) || quotient == rest) {
            return BAD;
        }
        if (!Division.canDivideBy(registers[b])) {
            return ORDER;
        }
        if (!division.carryOut(registers[a], registers[b])) {
            return LARGE;
        }
        registers[quotient].become(division.quotient);
        registers[rest].become(division.rest);
        return 0;
    }

    public int over(int to, int a, int b) {
        if (!areRegisters(to, a, b)) {
            return BAD;
        }
        if (registers[b].topOrder() != 0 || registers[a].topOrder() < 0) {
            return ORDER;
        }
        Operator whole = fractions.clearDenominator(registers[a], registers[b]);
        int fault = store(to, whole);
        return fault != 0 ? fault : whole.topOrder();
    }

    public int solve(int a, int g, int d) {
        if (!isRegister(a) || !isRegister(g) || !isWithin(d, TOP_DEGREE)) {
            return BAD;
        }
        if (registers[g].topOrder() > 0) {
            return ORDER;
        }
        return equations.findSolutions(registers[a], registers[g], d) ? equations.dimension : NONE;
    }

    public int pick(int to, int i) {
        if (!isRegister(to) || !isWithin(i, equations.dimension)) {
            return BAD;
        }
        registers[to].wipe();
        registers[to].copyRow(0, equations.found, i);
        return registers[to].topDegree(0) + 1;
    }

    public int factor(int a) {
        if (!isRegister(a)) {
            return BAD;
        }
        if (registers[a].topOrder() < 0) {
            return ORDER;
        }
        lines.search(registers[a]);
        return lines.count;
    }

    public int line(int i) {
        return isWithin(i, lines.count - 1) ? lines.pairs[i] : BAD;
    }

    public boolean same(int a, int b) {
        return isRegister(a) && isRegister(b) && registers[a].matches(registers[b]);
    }

    public int show(int register) {
        if (!isRegister(register)) {
            return BAD;
        }
        output.write(registers[register]);
        return output.length;
    }

    public int at(int i) {
        return isWithin(i, output.length - 1) ? output.symbols[i] : BAD;
    }

    private int store(int to, Operator result) {
        if (!result.fits()) {
            return LARGE;
        }
        registers[to].become(result);
        return 0;
    }

    private static boolean isRegister(int r) {
        return isWithin(r, REGISTERS - 1);
    }

    private static boolean areRegisters(int r, int s, int t) {
        return isRegister(r) && isRegister(s) && isRegister(t);
    }

    private static boolean isWithin(int number, int last) {
        return number >= 0 && number <= last;
    }

    /** The coefficients of an operator: row i is the polynomial before T^i. Outside the table all are 0. */
    private static final class Operator {
        final int orders;
        final int width;
        final int[] cells;

        Operator(int orders, int width) {
            this.orders = orders;
            this.width = width;
            cells = new int[orders * width];
        }

        int get(int i, int k) {
            boolean inside = i >= 0 && i < orders && k >= 0 && k < width;
            return inside ? cells[i * width + k] : 0;
        }

        void put(int i, int k, int value) {
            if (i >= 0 && i < orders && k >= 0 && k < width) {
                int rest = value % MODULUS;
                cells[i * width + k] = rest < 0 ? rest + MODULUS : rest;
            }
        }

        void wipe() {
            Arrays.fill(cells, 0);
        }

        void becomeTerm(int i, int k, int value) {
            wipe();
            put(i, k, value);
        }

        /** Takes over what there is room for. */
        void become(Operator other) {
            int rows = Math.min(orders, other.orders);
            int columns = Math.min(width, other.width);
            Arrays.fill(cells, 0);
            for (int i = 0; i < rows; i++) {
                System.arraycopy(other.cells, i * other.width, cells, i * width, columns);
            }
        }

        void copyRow(int i, Operator other, int from) {
            for (int k = 0; k < width; k++) {
                put(i, k, other.get(from, k));
            }
        }

        void plus(Operator other, int times) {
            for (int i = 0; i < orders; i++) {
                for (int k = 0; k < width; k++) {
                    put(i, k, get(i, k) + times * other.get(i, k));
                }
            }
        }

        /** Adds row i of a, times a number, times the operator w. */
        void plusRowTimes(Operator a, int i, int times, Operator w) {
            int rows = Math.min(orders, w.orders);
            for (int k = 0; i < a.orders && k < a.width; k++) {
                int c = times * a.cells[i * a.width + k] % MODULUS;
                int columns = c == 0 ? 0 : Math.min(width - k, w.width);
                for (int j = 0; j < rows; j++) {
                    for (int l = 0; l < columns; l++) {
                        int cell = j * width + k + l;
                        cells[cell] = (cells[cell] + c * w.cells[j * w.width + l]) % MODULUS;
                    }
                }
            }
        }

        /** Makes T w of this operator w: all rows go up by one T, and leave their derivatives behind or are shifted. */
        void putTBefore(boolean shift) {
            for (int i = orders - 1; i >= 0; i--) {
                if (!shift) {
                    deriveRow(i);
                }
                for (int k = 0; k < width; k++) {
                    int below = i > 0 ? cells[(i - 1) * width + k] : 0;
                    cells[i * width + k] = shift ? below : (cells[i * width + k] + below) % MODULUS;
                }
                if (shift) {
                    shiftRow(i);
                }
            }
        }

        /** Makes T f of the polynomial f in row 0. */
        void actOnPolynomial(boolean shift) {
            if (shift) {
                shiftRow(0);
            } else {
                deriveRow(0);
            }
        }

        void deriveRow(int i) {
            int start = i * width;
            for (int k = 0; k < width; k++) {
                int above = k + 1 < width ? cells[start + k + 1] : 0;
                cells[start + k] = (k + 1) * above % MODULUS;
            }
        }

        /** Puts x + 1 in place of x, by dividing by x - 1 again and again. */
        void shiftRow(int i) {
            int start = i * width;
            for (int last = 0; last < width; last++) {
                for (int k = width - 2; k >= last; k--) {
                    cells[start + k] = (cells[start + k] + cells[start + k + 1]) % MODULUS;
                }
            }
        }

        int topDegree(int i) {
            for (int k = width - 1; k >= 0; k--) {
                if (get(i, k) != 0) {
                    return k;
                }
            }
            return -1;
        }

        int topOrder() {
            for (int i = orders - 1; i >= 0; i--) {
                for (int k = 0; k < width; k++) {
                    if (get(i, k) != 0) {
                        return i;
                    }
                }
            }
            return -1;
        }

        boolean fits() {
            for (int i = 0; i < orders; i++) {
                int degree = topDegree(i);
                if (degree > TOP_DEGREE || (degree >= 0 && i > TOP_ORDER)) {
                    return false;
                }
            }
            return true;
        }

        boolean matches(Operator other) {
            for (int i = 0; i < orders; i++) {
                for (int k = 0; k < width; k++) {
                    if (get(i, k) != other.get(i, k)) {
                        return false;
                    }
                }
            }
            return true;
        }
    }

    /** What T does on a desk of one kind, and the results that follow from it; each result is lent until the next. */
    private static final class Algebra {
        final boolean shift;
        private final Operator result = new Operator(DOUBLE_ORDERS, DOUBLE_WIDTH);
        private final Operator walker = new Operator(DOUBLE_ORDERS, DOUBLE_WIDTH);

        Algebra(boolean shift) {
            this.shift = shift;
        }

        static int inverse(int number) {
            int power = 1;
            for (int n = 0; n < MODULUS - 2; n++) {
                power = power * number % MODULUS;
            }
            return power;
        }

        Operator sum(Operator a, Operator b, int times) {
            result.become(a);
            result.plus(b, times);
            return result;
        }

        Operator product(Operator a, Operator b) {
            int n = a.topOrder();
            result.wipe();
            walker.become(b);
            for (int i = 0; i <= n; i++) {
                result.plusRowTimes(a, i, 1, walker);
                if (i < n) {
                    walker.putTBefore(shift);
                }
            }
            return result;
        }

        /** What the operator a makes of the polynomial f. */
        Operator image(Operator a, Operator f) {
            int n = a.topOrder();
            result.wipe();
            walker.wipe();
            walker.copyRow(0, f, 0);
            for (int i = 0; i <= n; i++) {
                result.plusRowTimes(a, i, 1, walker);
                walker.actOnPolynomial(shift);
            }
            return result;
        }
    }

    /**
     * The text, and how it is read. A value that is too large is cut and reading goes on, as wrong syntax anywhere
     * is to be answered first.
     */
    private static final class Parser {
        private static final char END = 0;

        private final Algebra algebra;
        private final char[] symbols = new char[TEXT_LIMIT];
        private int length = 0;
        private int place = 0;
        private boolean wrong = false;
        private boolean large = false;
        // One of each for every number of brackets that may be open.
        private final Operator[] sums = new Operator[OPEN_LIMIT + 1];
        private final Operator[] products = new Operator[OPEN_LIMIT + 1];
        private final Operator[] powers = new Operator[OPEN_LIMIT + 1];
        private final Operator[] atoms = new Operator[OPEN_LIMIT + 1];

        Parser(Algebra algebra) {
            this.algebra = algebra;
            for (int open = 0; open <= OPEN_LIMIT; open++) {
                sums[open] = new Operator(ORDERS, WIDTH);
                products[open] = new Operator(ORDERS, WIDTH);
                powers[open] = new Operator(ORDERS, WIDTH);
                atoms[open] = new Operator(ORDERS, WIDTH);
            }
        }

        boolean keep(char c) {
            if (length >= TEXT_LIMIT) {
                return false;
            }
            symbols[length] = c;
            length++;
            return true;
        }

        int forget() {
            int had = length;
            length = 0;
            return had;
        }

        /** Answers 0, SYNTAX or LARGE. */
        int parse() {
            place = 0;
            wrong = false;
            large = false;
            readSum(0);
            if (wrong || place != length) {
                return SYNTAX;
            }
            return large ? LARGE : 0;
        }

        Operator value() {
            return sums[0];
        }

        private char next() {
            return place < length ? symbols[place] : END;
        }

        private static boolean isDigit(char c) {
            return c >= '0' && c <= '9';
        }

        private static boolean isSign(char c) {
            return c == '+' || c == '-';
        }

        private static boolean startsAtom(char c) {
            return isDigit(c) || c == 'x' || c == 'T' || c == '(';
        }

        private int takeSign() {
            int times = next() == '-' ? MODULUS - 1 : 1;
            place++;
            return times;
        }

        private void readSum(int open) {
            int times = isSign(next()) ? takeSign() : 1;
            sums[open].wipe();
            for (int n = 0; n < TEXT_LIMIT; n++) {
                readProduct(open);
                if (wrong) {
                    return;
                }
                sums[open].plus(products[open], times);
                if (!isSign(next())) {
                    return;
                }
                times = takeSign();
            }
        }

        private void readProduct(int open) {
            products[open].becomeTerm(0, 0, 1);
            for (int n = 0; n < TEXT_LIMIT; n++) {
                readPower(open);
                if (wrong) {
                    return;
                }
                Operator product = algebra.product(products[open], powers[open]);
                large = large || !product.fits();
                products[open].become(product);
                if (next() == '*') {
                    place++;
                } else if (!startsAtom(next())) {
                    return;
                }
            }
        }

        private void readPower(int open) {
            readAtom(open);
            if (wrong) {
                return;
            }
            if (next() != '^') {
                powers[open].become(atoms[open]);
                return;
            }
            place++;
            if (!isDigit(next())) {
                wrong = true;
                return;
            }
            int exponent = next() - '0';
            place++;
            powers[open].becomeTerm(0, 0, 1);
            // Orders and degrees of products add up, so a power that is too large stays so with a greater exponent.
            for (int n = 0; n < exponent; n++) {
                Operator power = algebra.product(powers[open], atoms[open]);
                large = large || !power.fits();
                powers[open].become(power);
            }
        }

        private void readAtom(int open) {
            char c = next();
            if (isDigit(c)) {
                atoms[open].becomeTerm(0, 0, takeNumber());
            } else if (c == 'x') {
                place++;
                atoms[open].becomeTerm(0, 1, 1);
            } else if (c == 'T') {
                place++;
                atoms[open].becomeTerm(1, 0, 1);
            } else if (c == '(' && open < OPEN_LIMIT) {
                readBrackets(open);
            } else {
                wrong = true;
            }
        }

        private int takeNumber() {
            int number = 0;
            for (int n = 0; n < TEXT_LIMIT && isDigit(next()); n++) {
                number = (10 * number + next() - '0') % MODULUS;
                place++;
            }
            return number;
        }

        private void readBrackets(int open) {
            place++;
            readSum(open + 1);
            if (wrong || next() != ')') {
                wrong = true;
                return;
            }
            place++;
            atoms[open].become(sums[open + 1]);
        }
    }

    /** Division from the right by an operator whose first coefficient is a number. */
    private static final class Division {
        private final Algebra algebra;
        final Operator quotient = new Operator(ORDERS, WIDTH);
        final Operator rest = new Operator(ORDERS, DOUBLE_WIDTH);
        private final Operator walker = new Operator(ORDERS, WIDTH);

        Division(Algebra algebra) {
            this.algebra = algebra;
        }

        static boolean canDivideBy(Operator b) {
            return b.topDegree(b.topOrder()) == 0;
        }

        /** Answers whether quotient and rest can stand in registers. */
        boolean carryOut(Operator a, Operator b) {
            int n = b.topOrder();
            int inverse = Algebra.inverse(b.get(n, 0));
            quotient.wipe();
            rest.become(a);
            for (int i = TOP_ORDER - n; i >= 0; i--) {
                // No later step changes this coefficient of the quotient, so the result is too large already.
                if (rest.topDegree(n + i) > TOP_DEGREE) {
                    return false;
                }
                for (int k = 0; k <= TOP_DEGREE; k++) {
                    quotient.put(i, k, inverse * rest.get(n + i, k));
                }
                takeAway(i, b);
            }
            return rest.fits();
        }

        private void takeAway(int i, Operator b) {
            walker.become(b);
            for (int j = 0; j < i; j++) {
                walker.putTBefore(algebra.shift);
            }
            rest.plusRowTimes(quotient, i, MODULUS - 1, walker);
        }
    }

    /** Operators for the numerators of fractions with a given denominator q. */
    private static final class Fractions {
        private final Algebra algebra;
        private final Operator result = new Operator(ORDERS, FRACTION_WIDTH);
        private final Operator stage = new Operator(ORDERS, FRACTION_WIDTH);
        private final Operator term = new Operator(ORDERS, FRACTION_WIDTH);
        private final Operator spare = new Operator(ORDERS, FRACTION_WIDTH);
        // The derivative of q, or q with x + j in place of x.
        private final Operator companion = new Operator(1, WIDTH);

        Fractions(Algebra algebra) {
            this.algebra = algebra;
        }

        Operator clearDenominator(Operator a, Operator q) {
            result.wipe();
            if (algebra.shift) {
                gatherShifts(a, q, a.topOrder());
            } else {
                gatherDerivatives(a, q, a.topOrder());
            }
            return result;
        }

        private void gatherDerivatives(Operator a, Operator q, int n) {
            companion.become(q);
            companion.deriveRow(0);
            stage.becomeTerm(0, 0, 1);
            for (int i = 0; i <= n; i++) {
                term.become(stage);
                for (int j = i; j < n; j++) {
                    putBefore(q, term);
                }
                result.plusRowTimes(a, i, 1, term);
                if (i < n) {
                    advanceStage(q, i);
                }
            }
        }

        /** Makes N_(i+1) of N_i. */
        private void advanceStage(Operator q, int i) {
            term.become(stage);
            putBefore(companion, term);
            stage.putTBefore(algebra.shift);
            putBefore(q, stage);
            stage.plus(term, -(i + 1));
        }

        private void gatherShifts(Operator a, Operator q, int n) {
            for (int i = 0; i <= n; i++) {
                term.becomeTerm(i, 0, 1);
                companion.become(q);
                for (int j = 0; j <= n; j++) {
                    if (j != i) {
                        putBefore(companion, term);
                    }
                    companion.shiftRow(0);
                }
                result.plusRowTimes(a, i, 1, term);
            }
        }

        private void putBefore(Operator polynomial, Operator w) {
            spare.wipe();
            spare.plusRowTimes(polynomial, 0, 1, w);
            w.become(spare);
        }
    }

    /** The linear equations for the coefficients of a solution, and the solutions found last. */
    private static final class Equations {
        // Behind the columns of the unknowns stands that of the right side.
        private static final int RIGHT = WIDTH;

        private final Algebra algebra;
        private final Operator monomial = new Operator(1, WIDTH);
        private final Operator matrix = new Operator(DOUBLE_WIDTH, WIDTH + 1);
        private final int[] pivots = new int[WIDTH];
        // Row 0 is the particular solution, the basis follows.
        final Operator found = new Operator(WIDTH + 1, WIDTH);
        int dimension = -1;

        Equations(Algebra algebra) {
            this.algebra = algebra;
        }

        /** Answers whether there are solutions; if not, those found before stay. */
        boolean findSolutions(Operator a, Operator g, int d) {
            setUp(a, g, d);
            int rank = eliminate(d);
            for (int row = rank; row < matrix.orders; row++) {
                if (matrix.get(row, RIGHT) != 0) {
                    return false;
                }
            }
            writeSolutions(d);
            return true;
        }

        private void setUp(Operator a, Operator g, int d) {
            matrix.wipe();
            for (int k = 0; k <= d; k++) {
                monomial.becomeTerm(0, k, 1);
                Operator image = algebra.image(a, monomial);
                for (int row = 0; row < matrix.orders; row++) {
                    matrix.put(row, k, image.get(0, row));
                }
            }
            for (int row = 0; row < WIDTH; row++) {
                matrix.put(row, RIGHT, g.get(0, row));
            }
        }

        /** Columns by ascending degrees: so a column without pivot is the degree of a basis solution. */
        private int eliminate(int d) {
            int rank = 0;
            for (int k = 0; k <= d; k++) {
                int row = findPivot(rank, k);
                pivots[k] = -1;
                if (row >= 0) {
                    swapRows(row, rank);
                    clearColumn(rank, k);
                    pivots[k] = rank;
                    rank++;
                }
            }
            return rank;
        }

        private int findPivot(int from, int k) {
            for (int row = from; row < matrix.orders; row++) {
                if (matrix.get(row, k) != 0) {
                    return row;
                }
            }
            return -1;
        }

        private void swapRows(int row, int other) {
            for (int k = 0; k <= RIGHT; k++) {
                int held = matrix.get(row, k);
                matrix.put(row, k, matrix.get(other, k));
                matrix.put(other, k, held);
            }
        }

        private void clearColumn(int pivot, int column) {
            int inverse = Algebra.inverse(matrix.get(pivot, column));
            for (int k = 0; k <= RIGHT; k++) {
                matrix.put(pivot, k, inverse * matrix.get(pivot, k));
            }
            for (int row = 0; row < matrix.orders; row++) {
                int times = matrix.get(row, column);
                if (row != pivot && times != 0) {
                    for (int k = 0; k <= RIGHT; k++) {
                        matrix.put(row, k, matrix.get(row, k) - times * matrix.get(pivot, k));
                    }
                }
            }
        }

        private void writeSolutions(int d) {
            found.wipe();
            dimension = 0;
            writePivots(0, RIGHT, 1, d);
            for (int k = 0; k <= d; k++) {
                if (pivots[k] < 0) {
                    dimension++;
                    writePivots(dimension, k, -1, d);
                    found.put(dimension, k, 1);
                }
            }
        }

        private void writePivots(int solution, int column, int times, int d) {
            for (int k = 0; k <= d; k++) {
                if (pivots[k] >= 0) {
                    found.put(solution, k, times * matrix.get(pivots[k], column));
                }
            }
        }
    }

    /**
     * The factors T - (c x + e) of an operator, as 31 c + e.
     *
     * T^i divided by T - r, r being the line, leaves a polynomial R_i, with R_0 = 1. On a desk of the kind DERIVATIVE
     * R_(i+1) is r R_i + R_i', and R_i' is i c R_(i-1); on one of the kind SHIFT R_(i+1) is R_i r_i with r_i for r with
     * x + i in place of x. So the rest of an operator can be worked out at one place x after another.
     */
    private static final class Lines {
        // More places than the degree of a rest, which is 0 just when it is 0 at all of them.
        private static final int PLACES = TOP_DEGREE + TOP_ORDER + 1;

        private final Algebra algebra;
        // Row i has the values of the coefficient of T^i.
        private final Operator values = new Operator(ORDERS, PLACES);
        final int[] pairs = new int[MODULUS * MODULUS];
        int count = 0;

        Lines(Algebra algebra) {
            this.algebra = algebra;
        }

        void search(Operator a) {
            fillValues(a);
            count = 0;
            for (int pair = 0; pair < MODULUS * MODULUS; pair++) {
                if (leavesNothing(pair / MODULUS, pair % MODULUS)) {
                    pairs[count] = pair;
                    count++;
                }
            }
        }

        private void fillValues(Operator a) {
            for (int i = 0; i < ORDERS; i++) {
                for (int x = 0; x < PLACES; x++) {
                    int value = 0;
                    for (int k = TOP_DEGREE; k >= 0; k--) {
                        value = (value * x + a.get(i, k)) % MODULUS;
                    }
                    values.put(i, x, value);
                }
            }
        }

        private boolean leavesNothing(int c, int e) {
            for (int x = 0; x < PLACES; x++) {
                int rest = algebra.shift ? restOfShift(c, e, x) : restOfDerivative(c, e, x);
                if (rest != 0) {
                    return false;
                }
            }
            return true;
        }

        private int restOfDerivative(int c, int e, int x) {
            int r = c * x + e;
            int before = 0;
            int now = 1;
            int sum = 0;
            for (int i = 0; i < ORDERS; i++) {
                sum += values.get(i, x) * now;
                int behind = (r * now + i * c * before) % MODULUS;
                before = now;
                now = behind;
            }
            return sum % MODULUS;
        }

        private int restOfShift(int c, int e, int x) {
            int now = 1;
            int sum = 0;
            for (int i = 0; i < ORDERS; i++) {
                sum += values.get(i, x) * now;
                now = now * (c * (x + i) + e) % MODULUS;
            }
            return sum % MODULUS;
        }
    }

    /** The output of show. */
    private static final class Output {
        // A term such as 30x^12T^4 has nine characters at most, and a + between.
        private static final int TERM_LIMIT = 10;

        final char[] symbols = new char[ORDERS * WIDTH * TERM_LIMIT];
        int length = 0;

        void write(Operator a) {
            length = 0;
            for (int i = TOP_ORDER; i >= 0; i--) {
                for (int k = TOP_DEGREE; k >= 0; k--) {
                    if (a.get(i, k) != 0) {
                        writeTerm(a.get(i, k), k, i);
                    }
                }
            }
            if (length == 0) {
                writeSymbol('0');
            }
        }

        private void writeTerm(int c, int k, int i) {
            if (length > 0) {
                writeSymbol('+');
            }
            if (c != 1 || (k == 0 && i == 0)) {
                writeNumber(c);
            }
            writePower('x', k);
            writePower('T', i);
        }

        private void writePower(char base, int exponent) {
            if (exponent > 0) {
                writeSymbol(base);
            }
            if (exponent > 1) {
                writeSymbol('^');
                writeNumber(exponent);
            }
        }

        private void writeNumber(int number) {
            if (number >= 10) {
                writeSymbol((char) ('0' + number / 10));
            }
            writeSymbol((char) ('0' + number % 10));
        }

        private void writeSymbol(char c) {
            if (length < symbols.length) {
                symbols[length] = c;
                length++;
            }
        }
    }
}
