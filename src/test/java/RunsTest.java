/** Promises 30 to 34: runs. */
public final class RunsTest {
    private static final Class<IndexOutOfBoundsException> NO_NODE = IndexOutOfBoundsException.class;
    private static final Class<UnsupportedOperationException> FAILS = UnsupportedOperationException.class;

    private final Bench bench;
    private final TelescopeCourt court;

    private RunsTest(Bench bench) {
        this.bench = bench;
        court = bench.court;
    }

    private static RunsTest withNumbers() {
        return new RunsTest(Bench.withNumbers());
    }

    private void comes(String what, int node, int value, int steps) {
        long before = court.allSteps();
        Due.is(what + ", run", court.run(node), court.number(value));
        Due.is(what + ", all steps", court.allSteps(), before + steps);
        Due.is(what + ", by clauses", court.runByClauses(node), court.number(value));
        Due.is(what + ", steps", court.steps(node), steps);
        Due.is(what + ", constructors", court.valueSize(node), (court.size(value) + 1) / 2);
        Due.is(what + ", all steps then", court.allSteps(), before + steps);
    }

    private void fails(String what, int node) {
        failsBy(what, FAILS, node);
    }

    private void failsBy(String what, Class<? extends RuntimeException> why, int node) {
        long before = court.allSteps();
        Due.thrown(what + ", run", why, () -> court.run(node));
        Due.thrown(what + ", by clauses", why, () -> court.runByClauses(node));
        Due.thrown(what + ", steps", why, () -> court.steps(node));
        Due.thrown(what + ", constructors", why, () -> court.valueSize(node));
        Due.is(what + ", all steps", court.allSteps(), before);
    }

    private int v(int index) {
        return court.variable(index);
    }

    private int f(int function, int... arguments) {
        return bench.apply(court.functionNode(function), arguments);
    }

    private int c(int constructor, int... arguments) {
        return bench.apply(court.constructorNode(constructor), arguments);
    }

    private static void whatCannotBeRun() {
        RunsTest t = withNumbers();
        int d = t.bench.ofNumbers;
        for (int wrong : new int[] {-1, 250, Integer.MIN_VALUE, Integer.MAX_VALUE}) {
            t.failsBy("no node", NO_NODE, wrong);
        }
        t.fails("a type", d);
        t.fails("a constructor that lacks arguments", t.c(t.bench.next));
        t.fails("a lambda", t.court.lambda(d, t.v(0)));
        t.fails("an open term", t.c(t.bench.next, t.v(0)));
        t.fails("no type", t.c(t.bench.zero, t.c(t.bench.zero)));
        int function = t.bench.declareOverNumbers(1);
        int calling = t.f(function, t.bench.number(1));
        t.fails("open goals", calling);
        t.court.auto(0);
        t.fails("not accepted", calling);
        int away = t.court.apply(t.court.lambda(t.court.functions(d, d), t.bench.number(0)), t.f(function));
        t.fails("not accepted, put away", away);
        t.court.accept(function);
        t.comes("accepted", calling, t.bench.number(1), 1);
        t.comes("accepted, put away", away, t.bench.number(0), 1);
        t.fails("a function that lacks an argument", t.f(function));
    }

    private static void values() {
        RunsTest t = withNumbers();
        int d = t.bench.ofNumbers;
        t.comes("a constructor", t.c(t.bench.zero), t.bench.number(0), 0);
        t.comes("a number", t.bench.number(14), t.bench.number(14), 0);
        int identity = t.court.lambda(d, t.v(0));
        t.comes("a lambda", t.court.apply(identity, t.bench.number(2)), t.bench.number(2), 1);
        t.comes("within", t.c(t.bench.next, t.court.apply(identity, t.bench.number(2))), t.bench.number(3), 1);
        // An argument is found ahead of the step that puts it in, once, and even if it is put away.
        int slow = t.court.apply(identity, t.court.apply(identity, t.bench.number(0)));
        t.comes("put away", t.court.apply(t.court.lambda(d, t.bench.number(1)), slow), t.bench.number(1), 3);
        int pairs = t.court.addData();
        int pair = t.court.addConstructor(pairs, 2, 0, 0, 0);
        int twice = t.court.lambda(d, t.c(pair, t.v(0), t.v(0)));
        t.comes("put twice", t.court.apply(twice, slow), t.c(pair, t.bench.number(0), t.bench.number(0)), 3);
        // A lambda is a value as it is: what is below it takes its steps where it is applied.
        int below = t.court.lambda(d, t.court.apply(identity, t.court.apply(identity, t.v(0))));
        int toFunctions = t.court.lambda(t.court.functions(d, d), t.bench.number(2));
        t.comes("below a lambda", t.court.apply(toFunctions, below), t.bench.number(2), 1);
        int called = t.court.lambda(t.court.functions(d, d), t.court.apply(t.v(0), t.court.apply(t.v(0), t.bench.number(1))));
        t.comes("called twice", t.court.apply(called, below), t.bench.number(1), 7);
        t.comes("a constructor that lacks arguments", t.court.apply(called, t.c(t.bench.next)), t.bench.number(3), 1);
    }

    private int declareAddition() {
        int function = bench.declareOverNumbers(2);
        court.split(0, 0);
        court.fill(1, v(0));
        court.fill(2, c(bench.next, f(function, v(1), v(0))));
        court.accept(function);
        return function;
    }

    private static void functions() {
        RunsTest t = withNumbers();
        int d = t.bench.ofNumbers;
        int add = t.declareAddition();
        t.comes("0 + 3", t.f(add, t.bench.number(0), t.bench.number(3)), t.bench.number(3), 1);
        t.comes("3 + 2", t.f(add, t.bench.number(3), t.bench.number(2)), t.bench.number(5), 4);
        t.comes("(1 + 1) + (2 + 0)", t.f(add, t.f(add, t.bench.number(1), t.bench.number(1)),
                t.f(add, t.bench.number(2), t.bench.number(0))), t.bench.number(4), 8);
        int called = t.court.lambda(t.court.functions(d, d), t.court.apply(t.v(0), t.bench.number(2)));
        t.comes("a function that lacks an argument", t.court.apply(called, t.f(add, t.bench.number(1))),
                t.bench.number(3), 3);
        // A function of an earlier one, with a goal below a goal.
        int half = t.bench.declareOverNumbers(1);
        t.court.split(3, 0);
        t.court.split(5, 0);
        t.court.fill(4, t.c(t.bench.zero));
        t.court.fill(6, t.f(add, t.bench.number(1), t.bench.number(0)));
        t.court.fill(7, t.c(t.bench.next, t.f(half, t.v(0))));
        t.court.accept(half);
        t.comes("half of 0", t.f(half, t.bench.number(0)), t.bench.number(0), 1);
        t.comes("half of 1", t.f(half, t.bench.number(1)), t.bench.number(1), 3);
        t.comes("half of 4", t.f(half, t.bench.number(4)), t.bench.number(2), 3);
        t.comes("half of 5", t.f(half, t.bench.number(5)), t.bench.number(3), 5);
        t.comes("half of 2 + 2", t.f(half, t.f(add, t.bench.number(2), t.bench.number(2))), t.bench.number(2), 6);
    }

    /** One that is called with types and with more arguments than it has. */
    private static void functionsOverTypes() {
        RunsTest t = withNumbers();
        int d = t.bench.ofNumbers;
        int u0 = t.court.universe(0);
        int same = t.court.declare(t.bench.functions(u0, t.v(0), t.v(1)));
        t.court.auto(0);
        t.court.accept(same);
        t.comes("of a number", t.f(same, d, t.bench.number(2)), t.bench.number(2), 1);
        t.comes("of a function", t.f(same, t.court.functions(d, d), t.c(t.bench.next), t.bench.number(2)),
                t.bench.number(3), 1);
        int lambda = t.court.lambda(d, t.c(t.bench.next, t.v(0)));
        t.comes("of a lambda", t.f(same, t.court.functions(d, d), lambda, t.bench.number(0)), t.bench.number(1), 2);
        int type = t.court.apply(t.court.lambda(u0, t.v(0)), d);
        t.comes("of a type that takes a step", t.f(same, type, t.bench.number(1)), t.bench.number(1), 2);
    }

    /** Patterns two deep, in two places, with arguments of another data type between. */
    private static void patterns() {
        RunsTest t = withNumbers();
        int trees = t.court.addData();
        int tip = t.court.addConstructor(trees, 1, t.bench.numbers, 0, 0);
        int fork = t.court.addConstructor(trees, 3, trees, t.bench.numbers, trees);
        int ofTrees = t.court.dataNode(trees);
        int d = t.bench.ofNumbers;
        int pick = t.court.declare(t.bench.functions(d, ofTrees, d, d));
        t.court.split(0, 1);                   // 1: d tip(d) d; 2: d fork(trees d trees) d
        t.court.split(2, 1);                   // 3: d d(tip) d trees d; 4: d trees d trees d trees d
        t.court.split(3, 0);                   // 5: zero; 6: next
        t.court.fill(1, t.v(1));
        t.court.fill(5, t.v(3));
        t.court.fill(6, t.f(pick, t.v(4), t.v(1), t.v(0)));
        t.court.fill(4, t.f(pick, t.v(6), t.v(3), t.v(2)));
        t.court.accept(pick);
        int tip1 = t.c(tip, t.bench.number(1));
        int tip2 = t.c(tip, t.bench.number(2));
        int branch = t.c(fork, tip1, t.bench.number(0), tip2);
        t.comes("a tip", t.f(pick, t.bench.number(1), tip2, t.bench.number(0)), t.bench.number(2), 1);
        t.comes("a fork with zero", t.f(pick, t.bench.number(0), branch, t.bench.number(2)), t.bench.number(1), 1);
        t.comes("a fork with next", t.f(pick, t.bench.number(1), branch, t.bench.number(0)), t.bench.number(2), 2);
        int tip0 = t.c(tip, t.bench.number(0));
        int deep = t.c(fork, t.c(fork, tip0, t.bench.number(0), tip1), t.bench.number(0), tip0);
        t.comes("a fork of a fork", t.f(pick, t.bench.number(0), deep, t.bench.number(0)), t.bench.number(1), 2);
    }

    private int declareOfPacks(int packs, int goal, int variable, int... places) {
        int function = court.declare(bench.functions(packs, packs, packs, packs, bench.ofNumbers));
        for (int i = 0; i < places.length; i++) {
            Due.is("split", court.split(goal + i, places[i]), 1);
        }
        court.fill(goal + places.length, v(variable));
        court.accept(function);
        return function;
    }

    /** Goals with twelve variables in their context. */
    private static void manyVariables() {
        RunsTest t = withNumbers();
        int data = t.court.addData();
        int pack = t.court.addConstructor(data, 3, t.bench.numbers, t.bench.numbers, t.bench.numbers);
        int packs = t.court.dataNode(data);
        int from = t.court.declare(t.court.functions(t.bench.ofNumbers, packs));
        int more = t.c(t.bench.next, t.v(0));
        t.court.fill(0, t.c(pack, t.v(0), more, t.c(t.bench.next, more)));
        t.court.accept(from);
        int[] four = new int[4];
        for (int i = 0; i < 4; i++) {
            four[i] = t.f(from, t.bench.number(i));
        }
        int first = t.declareOfPacks(packs, 1, 11, 3, 2, 1, 0);
        int sixth = t.declareOfPacks(packs, 6, 6, 0, 3, 6, 9);
        int eighth = t.declareOfPacks(packs, 11, 4, 1, 0, 6, 9);
        int last = t.declareOfPacks(packs, 16, 0, 3, 2, 1, 0);
        t.comes("the first of twelve", t.f(first, four), t.bench.number(0), 5);
        t.comes("the sixth of twelve", t.f(sixth, four), t.bench.number(3), 5);
        t.comes("the eighth of twelve", t.f(eighth, four), t.bench.number(3), 5);
        t.comes("the last of twelve", t.f(last, four), t.bench.number(5), 5);
    }

    /** A right side whose lambda has the values of the context in its body. */
    private static void lambdasOfContexts() {
        RunsTest t = withNumbers();
        int d = t.bench.ofNumbers;
        int add = t.declareAddition();
        int function = t.bench.declareOverNumbers(2);
        int body = t.f(add, t.v(2), t.f(add, t.v(0), t.v(1)));
        t.court.fill(3, t.court.apply(t.court.lambda(d, body), t.c(t.bench.next, t.v(1))));
        t.court.accept(function);
        // 1 + ((1 + 1) + 2): the call and the lambda, three steps for the inner sum and two for the outer one.
        t.comes("a lambda of values", t.f(function, t.bench.number(1), t.bench.number(2)), t.bench.number(5), 7);
    }

    private static void manySteps() {
        RunsTest t = withNumbers();
        int copy = t.bench.declareCopy(0);
        int five = t.bench.times(5, t.f(copy), t.bench.number(7));
        t.comes("forty steps", five, t.bench.number(7), 40);
        t.fails("forty-one steps", t.court.apply(t.court.lambda(t.bench.ofNumbers, t.v(0)), five));
        t.fails("many steps", t.bench.times(5, t.f(copy), t.bench.number(9)));
        t.comes("after one that fails", t.f(copy, t.bench.number(1)), t.bench.number(1), 2);
    }

    // Trees of a tip, of one tree and of two; a pair of two ones has 3 more nodes than both.
    private int trees;
    private int wrap;
    private int pair;
    private int twice;
    private int away;

    private static RunsTest withTrees() {
        RunsTest t = new RunsTest(new Bench());
        int data = t.court.addData();
        t.trees = t.court.dataNode(data);
        int tip = t.court.addConstructor(data, 0, 0, 0, 0);
        t.wrap = t.court.addConstructor(data, 1, data, 0, 0);
        t.pair = t.court.addConstructor(data, 2, data, data, 0);
        t.twice = t.court.declare(t.court.functions(t.trees, t.trees));
        t.court.fill(0, t.c(t.pair, t.v(0), t.v(0)));
        t.court.accept(t.twice);
        t.away = t.court.declare(t.bench.functions(t.trees, t.trees, t.trees));
        t.court.fill(1, t.c(tip));
        t.court.accept(t.away);
        return t;
    }

    private int wrapped(int tree) {
        return c(wrap, tree);
    }

    /** A term whose value has a size of 97 after four steps. */
    private int ninetySeven() {
        return f(twice, fortySeven());
    }

    private int fortySeven() {
        return wrapped(f(twice, f(twice, wrapped(wrapped(f(twice, c(0)))))));
    }

    private static void largeValues() {
        RunsTest t = withTrees();
        Due.is("a value of 97", t.court.valueSize(t.ninetySeven()), 49);
        // 3 + 97 + 99 is 199, and 3 + 99 + 99 is 201.
        int within = t.court.lambda(t.trees, t.c(t.pair, t.f(t.twice, t.v(0)), t.wrapped(t.f(t.twice, t.v(0)))));
        int fits = t.court.apply(within, t.fortySeven());
        Due.is("a constructor with 199", t.court.valueSize(fits), 100);
        Due.is("its steps", t.court.steps(fits), 6);
        Due.is("by clauses as well", t.court.runByClauses(fits), t.court.run(fits));
        int beyond = t.court.lambda(t.trees,
                t.c(t.pair, t.wrapped(t.f(t.twice, t.v(0))), t.wrapped(t.f(t.twice, t.v(0)))));
        t.fails("a constructor with 201", t.court.apply(beyond, t.fortySeven()));
    }

    private static void largeCalls() {
        RunsTest t = withTrees();
        int within = t.court.lambda(t.trees, t.f(t.away, t.f(t.twice, t.v(0)), t.wrapped(t.f(t.twice, t.v(0)))));
        t.comes("a function with 199", t.court.apply(within, t.fortySeven()), t.c(0), 7);
        int beyond = t.court.lambda(t.trees,
                t.f(t.away, t.wrapped(t.f(t.twice, t.v(0))), t.wrapped(t.f(t.twice, t.v(0)))));
        t.fails("a function with 201", t.court.apply(beyond, t.fortySeven()));
    }

    private static void largeBodies() {
        RunsTest t = withTrees();
        // What the inner lambda puts away is in the body of the outer one: 1 + 3 + 3 + 97 + 97 is 201.
        int drop = t.court.lambda(t.trees, t.c(0));
        int body = t.court.apply(drop, t.c(t.pair, t.v(0), t.v(0)));
        t.fails("a body of 201", t.court.apply(t.court.lambda(t.trees, body), t.ninetySeven()));
        int smaller = t.court.lambda(t.trees, t.c(t.pair, t.v(0), t.v(0)));
        Due.is("a body of 197", t.court.valueSize(t.court.apply(smaller, t.ninetySeven())), 99);
        int wrappedOnce = t.court.lambda(t.trees, t.wrapped(t.c(t.pair, t.v(0), t.v(0))));
        Due.is("a body of 199", t.court.valueSize(t.court.apply(wrappedOnce, t.ninetySeven())), 100);
        int under = t.court.lambda(t.trees, t.court.apply(drop, t.v(0)));
        t.comes("a body of 101", t.court.apply(under, t.ninetySeven()), t.c(0), 6);
    }

    private static void largeRightSides() {
        RunsTest t = withTrees();
        int drop = t.court.lambda(t.trees, t.c(0));
        int tight = t.court.declare(t.court.functions(t.trees, t.trees));
        t.court.fill(2, t.wrapped(t.c(t.pair, t.v(0), t.v(0))));
        t.court.accept(tight);
        int tooTight = t.court.declare(t.court.functions(t.trees, t.trees));
        t.court.fill(3, t.court.apply(drop, t.c(t.pair, t.v(0), t.v(0))));
        t.court.accept(tooTight);
        Due.is("a right side of 199", t.court.valueSize(t.f(tight, t.ninetySeven())), 100);
        t.fails("a right side of 201", t.f(tooTight, t.ninetySeven()));
        t.comes("a smaller one", t.f(tooTight, t.c(0)), t.c(0), 2);
    }

    public static void main(String[] args) {
        whatCannotBeRun();
        values();
        functions();
        functionsOverTypes();
        patterns();
        manyVariables();
        lambdasOfContexts();
        manySteps();
        largeValues();
        largeCalls();
        largeBodies();
        largeRightSides();
        Due.is("no steps yet", new TelescopeCourt().allSteps(), 0L);
        Due.end();
    }
}
