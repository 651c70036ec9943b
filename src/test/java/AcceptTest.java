import java.util.NoSuchElementException;

/** Promises 28 and 29: functions are accepted if they come to an end. */
public final class AcceptTest {
    private static final Class<NoSuchElementException> NO_FUNCTION = NoSuchElementException.class;
    private static final Class<IllegalStateException> NOT_NOW = IllegalStateException.class;
    private static final Class<UnsupportedOperationException> CANNOT = UnsupportedOperationException.class;

    private static void states() {
        Bench bench = Bench.withNumbers();
        TelescopeCourt court = bench.court;
        int function = bench.declareOverNumbers(1);
        for (int wrong : new int[] {-1, 1, 8, Integer.MIN_VALUE, Integer.MAX_VALUE}) {
            Due.thrown("accept of none", NO_FUNCTION, () -> court.accept(wrong));
            Due.thrown("isAccepted of none", NO_FUNCTION, () -> court.isAccepted(wrong));
        }
        Due.thrown("an open goal", NOT_NOW, () -> court.accept(function));
        Due.is("not accepted", court.isAccepted(function), false);
        court.auto(0);
        Due.is("filled is not accepted", court.isAccepted(function), false);
        Due.is("no calls", court.accept(function), 0);
        Due.is("accepted", court.isAccepted(function), true);
        Due.thrown("accepted already", NOT_NOW, () -> court.accept(function));
        bench.declareOverNumbers(1);
        Due.is("the next one is not", court.isAccepted(1), false);
    }

    private static void oneArgument() {
        Bench bench = Bench.withNumbers();
        TelescopeCourt court = bench.court;
        int function = bench.declareOverNumbers(1);
        int own = court.functionNode(function);
        int x = court.variable(0);
        court.fill(0, court.apply(own, x));
        Due.thrown("its own argument", CANNOT, () -> court.accept(function));
        Due.is("not accepted", court.isAccepted(function), false);
        court.reopen(0);
        court.fill(0, court.apply(own, bench.number(0)));
        Due.thrown("no variable", CANNOT, () -> court.accept(function));
        court.reopen(0);
        court.split(0, 0);
        court.fill(1, bench.number(0));
        court.fill(2, court.apply(own, court.apply(court.constructorNode(bench.next), x)));
        Due.thrown("as large as it was", CANNOT, () -> court.accept(function));
        court.reopen(2);
        court.fill(2, court.apply(own, court.apply(court.lambda(bench.ofNumbers, x), x)));
        Due.thrown("smaller behind a step", CANNOT, () -> court.accept(function));
        court.reopen(2);
        court.fill(2, court.apply(court.lambda(court.functions(bench.ofNumbers, bench.ofNumbers), bench.number(0)), own));
        Due.thrown("named alone", CANNOT, () -> court.accept(function));
        court.reopen(2);
        court.fill(2, court.apply(court.lambda(bench.ofNumbers, court.apply(own, x)), x));
        Due.thrown("the variable of a lambda", CANNOT, () -> court.accept(function));
        court.reopen(2);
        court.fill(2, court.apply(court.lambda(bench.ofNumbers, court.apply(own, court.variable(1))), x));
        Due.is("below a lambda", court.accept(function), 1);
    }

    /** One goal, with patterns of next and a variable where it is split, and calls with these variables. */
    private static int accepting(int arity, int[] splits, int[]... calls) {
        Bench bench = new Bench();
        TelescopeCourt court = bench.court;
        int data = court.addData();
        court.addConstructor(data, 1, data, 0, 0);
        court.addConstructor(data, 2, data, data, 0);
        int type = court.dataNode(data);
        int all = type;
        for (int i = 0; i < arity; i++) {
            all = court.functions(type, all);
        }
        court.declare(all);
        int goal = 0;
        for (int place : splits) {
            court.split(goal, place);
            goal = goal == 0 ? 1 : goal + 2;
        }
        int right = -1;
        for (int[] call : calls) {
            int made = court.functionNode(0);
            for (int place : call) {
                made = court.apply(made, court.variable(arity - 1 - place));
            }
            right = right < 0 ? made : bench.apply(court.constructorNode(1), right, made);
        }
        court.fill(goal, right);
        for (int i = 0; i < 39; i++) {
            fillOther(court, i);
        }
        return court.accept(0);
    }

    private static void fillOther(TelescopeCourt court, int goal) {
        try {
            court.auto(goal);
        } catch (NoSuchElementException | IllegalStateException e) {
            // There is no such goal, or it is split or filled.
        }
    }

    private static int[] row(int... numbers) {
        return numbers;
    }

    private static void graphs() {
        Due.is("the first one smaller", accepting(2, row(0), row(0, 1)), 1);
        Due.is("two of the same", accepting(2, row(0), row(0, 1), row(0, 1)), 1);
        Due.is("either one smaller", accepting(2, row(0, 1), row(0, 1), row(0, 0)), 2);
        Due.is("both change places", accepting(2, row(0, 1), row(1, 0)), 2);
        Due.is("one smaller, places change", accepting(2, row(1), row(1, 0)), 3);
        Due.thrown("the places change", CANNOT, () -> accepting(2, row(), row(1, 0)));
        Due.thrown("one is lost", CANNOT, () -> accepting(2, row(0), row(1, 1)));
        Due.thrown("three of four are lost", CANNOT, () -> accepting(4, row(), row(1, 1, 1, 1)));
        Due.thrown("the last one is all of them", CANNOT, () -> accepting(4, row(0, 1, 2), row(3, 3, 3, 3)));
        Due.is("the last one is smaller", accepting(4, row(3), row(3, 3, 3, 3)), 1);
        Due.is("in a circle", accepting(3, row(0, 1, 2), row(1, 2, 0)), 3);
        // One of them is smaller, two, all three; then the first two rows again, with all of them smaller.
        Due.is("in a circle, one smaller", accepting(3, row(0), row(1, 2, 0)), 5);
        Due.is("a row for another", accepting(3, row(0, 1, 2), row(1, 0, 2), row(1, 2, 0)), 6);
        Due.is("all rows of four", accepting(4, row(0, 1, 2, 3), row(1, 0, 2, 3), row(1, 2, 3, 0)), 24);
    }

    private static void fewerArguments() {
        Bench bench = Bench.withNumbers();
        TelescopeCourt court = bench.court;
        int d = bench.ofNumbers;
        int x = court.variable(0);
        int y = court.variable(1);
        int function = bench.declareOverNumbers(2);
        int own = court.functionNode(function);
        int toFunctions = court.lambda(court.functions(d, d), bench.number(0));
        court.split(0, 0);
        court.auto(1);
        court.fill(2, court.apply(toFunctions, court.apply(own, y)));
        Due.is("the one that is there is smaller", court.accept(function), 1);
        // What stands behind all arguments has no part in the graph.
        int u0 = court.universe(0);
        int same = court.declare(bench.functions(d, u0, x, y));
        int next = court.functions(d, d);
        court.split(3, 0);
        court.auto(4);
        int call = bench.apply(court.functionNode(same), court.variable(2), next, court.lambda(d, x), bench.number(1));
        court.fill(5, court.apply(court.lambda(d, y), call));
        Due.is("one argument more", court.accept(same), 1);
    }

    /** What is called with more than all arguments: of what stands behind them, nothing is in a graph. */
    private static void moreArguments() {
        Bench bench = new Bench();
        TelescopeCourt court = bench.court;
        court.addData();
        court.addConstructor(0, 1, 0, 0, 0);
        court.addConstructor(0, 1, 0, 0, 0);
        // (x : d) (y : d) (t : u0) (z : t) t, called with the type of functions from d to t as t.
        court.declare(bench.term("{d0 d0 u0 v0 v1}"));
        court.split(0, 0);
        court.fill(1, bench.term("(f0 v3 v2 {d0 v2} [d0 v1] v3)"));
        court.fill(2, bench.term("(f0 v3 v2 {d0 v2} [d0 v1] v2)"));
        Due.is("two calls, one graph", court.accept(0), 1);
    }

    /** A constructor of the number that a smaller variable has as its index is not this variable. */
    private static void leavesThatAreNoVariables() {
        Bench bench = Bench.withNumbers();
        TelescopeCourt court = bench.court;
        bench.declareOverNumbers(1);
        court.split(0, 0);
        court.fill(1, bench.term("c0"));
        court.fill(2, bench.term("(f0 c0)"));
        Due.thrown("a constructor", CANNOT, () -> court.accept(0));
        court.reopen(2);
        court.fill(2, bench.term("([{d0 d0} v1] f0)"));
        Due.thrown("itself alone", CANNOT, () -> court.accept(0));
        court.reopen(2);
        court.fill(2, bench.term("(f0 v0)"));
        Due.is("the variable", court.accept(0), 1);
    }

    /** A function of too many graphs is refused; the next one is not. */
    private static void behindTooMany() {
        Bench beyond = withTrees();
        TelescopeCourt court = beyond.court;
        court.split(0, 3);
        court.split(3, 1);
        court.split(6, 2);
        for (int i = 0; i < 2; i++) {
            Due.thrown("too many", CANNOT, () -> acceptWith(beyond, 2, call(beyond, 1, 0, 2, 3),
                    call(beyond, 0, 1, 0, 3), 10, call(beyond, 2, 1, 2, 3)));
            court.declare(beyond.term("{d0 d0}"));
            int goal = 13 + i;
            court.auto(goal);
            Due.is("the next one", court.accept(1 + i), 0);
            court.reopen(2);
            court.reopen(10);
        }
        court.fill(2, beyond.term("(f0 v1 v0 v0 v0)"));
        court.fill(10, beyond.term("c0"));
        Due.is("the first one with one call, and two of it", court.accept(0), 2);
    }

    /** A function that gives types calls itself in the parts of a type. */
    private static void withinTypes() {
        Bench bench = Bench.withNumbers();
        TelescopeCourt court = bench.court;
        int d = bench.ofNumbers;
        court.declare(court.functions(d, court.universe(0)));
        int own = court.functionNode(0);
        int x = court.variable(0);
        int y = court.variable(1);
        int larger = court.apply(own, court.apply(court.constructorNode(bench.next), x));
        court.split(0, 0);
        court.fill(1, d);
        court.fill(2, court.functions(larger, d));
        Due.thrown("a domain with no smaller call", CANNOT, () -> court.accept(0));
        court.reopen(2);
        court.fill(2, court.functions(d, court.apply(own, x)));
        Due.thrown("the variable of the codomain", CANNOT, () -> court.accept(0));
        court.reopen(2);
        court.fill(2, court.functions(court.apply(own, x), court.apply(own, y)));
        Due.is("both are smaller", court.accept(0), 1);
    }

    // Trees of a tip, of one tree in two ways, and of two trees; for graphs that come to the limit.
    private static Bench withTrees() {
        Bench bench = new Bench();
        TelescopeCourt court = bench.court;
        int data = court.addData();
        court.addConstructor(data, 0, 0, 0, 0);
        court.addConstructor(data, 1, data, 0, 0);
        court.addConstructor(data, 1, data, 0, 0);
        court.addConstructor(data, 2, data, data, 0);
        int tree = court.dataNode(data);
        court.declare(bench.functions(tree, tree, tree, tree, tree));
        return bench;
    }

    private static int call(Bench bench, int... indices) {
        int made = bench.court.functionNode(0);
        for (int index : indices) {
            made = bench.court.apply(made, bench.court.variable(index));
        }
        return made;
    }

    private static int acceptWith(Bench bench, int goal, int first, int second, int other, int third) {
        TelescopeCourt court = bench.court;
        court.fill(goal, bench.apply(court.constructorNode(3), first, second));
        court.fill(other, third);
        int tip = court.constructorNode(0);
        for (int i = 1; i < 13; i++) {
            if (court.goalState(i) == 'o') {
                court.fill(i, tip);
            }
        }
        return court.accept(0);
    }

    private static void manyGraphs() {
        Bench fits = withTrees();
        fits.court.split(0, 1);
        fits.court.split(2, 2);
        fits.court.split(3, 0);
        Due.is("200 graphs", acceptWith(fits, 6, call(fits, 1, 3, 3, 0), call(fits, 1, 2, 0, 3), 10,
                call(fits, 3, 1, 2, 3)), 200);
        Bench beyond = withTrees();
        beyond.court.split(0, 3);
        beyond.court.split(3, 1);
        beyond.court.split(6, 2);
        Due.thrown("201 graphs", CANNOT, () -> acceptWith(beyond, 2, call(beyond, 1, 0, 2, 3),
                call(beyond, 0, 1, 0, 3), 10, call(beyond, 2, 1, 2, 3)));
        Due.is("not accepted", beyond.court.isAccepted(0), false);
    }

    /** One that gets smaller in turns only: a number that is split once more than the other one is called with. */
    private static void ackermann() {
        Bench bench = Bench.withNumbers();
        TelescopeCourt court = bench.court;
        int function = bench.declareOverNumbers(2);
        int own = court.functionNode(function);
        int next = court.constructorNode(bench.next);
        int x = court.variable(0);
        int y = court.variable(1);
        court.split(0, 0);
        court.split(2, 1);
        court.fill(1, court.apply(next, x));
        court.fill(3, bench.apply(own, x, bench.number(1)));
        court.fill(4, bench.apply(own, y, bench.apply(own, court.apply(next, y), x)));
        Due.thrown("a constructor with the variable is none", CANNOT, () -> court.accept(function));
    }

    public static void main(String[] args) {
        states();
        oneArgument();
        graphs();
        fewerArguments();
        moreArguments();
        leavesThatAreNoVariables();
        withinTypes();
        manyGraphs();
        behindTooMany();
        ackermann();
        Due.end();
    }
}
