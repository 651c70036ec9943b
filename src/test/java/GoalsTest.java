import java.util.NoSuchElementException;

/** Promises 18 to 27: functions are declared, and their goals split, filled and opened again. */
public final class GoalsTest {
    private static final Class<IndexOutOfBoundsException> NO_PLACE = IndexOutOfBoundsException.class;
    private static final Class<NoSuchElementException> NO_GOAL = NoSuchElementException.class;
    private static final Class<IllegalStateException> NOT_NOW = IllegalStateException.class;
    private static final Class<UnsupportedOperationException> CANNOT = UnsupportedOperationException.class;
    private static final int[] WRONG = {-1, 100, Integer.MIN_VALUE, Integer.MAX_VALUE};

    private static void declaring() {
        Bench bench = Bench.withNumbers();
        TelescopeCourt court = bench.court;
        int d = bench.ofNumbers;
        int u0 = court.universe(0);
        int x = court.variable(0);
        for (int wrong : WRONG) {
            Due.thrown("no node", NO_PLACE, () -> court.declare(wrong));
        }
        Due.thrown("no arguments", CANNOT, () -> court.declare(d));
        Due.thrown("five arguments", CANNOT, () -> court.declare(bench.functions(d, d, d, d, d, d)));
        Due.thrown("no level", CANNOT, () -> court.declare(bench.number(1)));
        Due.thrown("an open type", CANNOT, () -> court.declare(court.functions(d, court.variable(1))));
        Due.thrown("the last universe", CANNOT, () -> court.declare(court.functions(d, court.universe(3))));
        Due.is("one argument", court.declare(court.functions(d, d)), 0);
        Due.is("four arguments", court.declare(bench.functions(d, d, d, d, u0)), 1);
        Due.is("its type", court.typeOf(court.functionNode(1)), court.number(bench.functions(d, d, d, d, u0)));
        Due.is("a result that is a type", court.goalType(1), 3);
        int behindStep = court.apply(court.lambda(u0, court.functions(x, court.variable(1))), d);
        Due.is("by a normal form", court.declare(behindStep), 2);
        Due.is("the normal form is its type", court.typeOf(court.functionNode(2)), court.number(bench.functions(d, d)));
        Due.is("over all types", court.declare(bench.functions(u0, x, court.variable(1))), 3);
        Due.is("context of it", court.contextSize(3), 2);
        Due.is("the outer type", court.contextType(3, 0), 3);
        Due.is("the inner type", court.contextType(3, 1), 11);
        Due.is("the type of the goal", court.goalType(3), 12);
        Due.is("a new goal", court.goalState(3), 'o');
        Due.is("goals of a function", court.openGoals(3), 1);
        for (int i = 4; i < 8; i++) {
            Due.is("declare", court.declare(court.functions(d, d)), i);
        }
        Due.thrown("a ninth function", NOT_NOW, () -> court.declare(court.functions(d, d)));
        Due.thrown("cannot before not now", CANNOT, () -> court.declare(d));
        Due.thrown("no node before not now", NO_PLACE, () -> court.declare(250));
        Due.thrown("no goal was made", NO_GOAL, () -> court.goalState(8));
    }

    private static void fullOfGoals() {
        Bench bench = Bench.withNumbers();
        TelescopeCourt court = bench.court;
        bench.declareOverNumbers(1);
        bench.declareOverNumbers(1);
        // Each split of the last goal makes two.
        court.split(0, 0);
        for (int i = 0; i < 18; i++) {
            Due.is("split", court.split(3 + 2 * i, 0), 2);
        }
        Due.is("the last goal", court.goalState(39), 'o');
        Due.thrown("goals of a split", NOT_NOW, () -> court.split(39, 0));
        Due.thrown("a declared one's goal", NOT_NOW, () -> court.declare(1));
        Due.thrown("no function came", NO_GOAL, () -> court.isAccepted(2));
        Due.is("it is open as it was", court.goalState(39), 'o');
        Due.is("open goals of the first", court.openGoals(0), 20);
        Due.is("open goals of the second", court.openGoals(1), 1);
    }

    private static void splitting() {
        Bench bench = Bench.withNumbers();
        TelescopeCourt court = bench.court;
        int d = bench.ofNumbers;
        int pairs = court.addData();
        int pair = court.addConstructor(pairs, 3, bench.numbers, pairs, bench.numbers);
        int nothing = court.addConstructor(pairs, 0, 0, 0, 0);
        int ofPairs = court.dataNode(pairs);
        int u0 = court.universe(0);
        court.declare(bench.functions(d, ofPairs, u0, d));
        for (int wrong : WRONG) {
            Due.thrown("no goal", NO_GOAL, () -> court.split(wrong, 0));
            Due.thrown("no place", NO_PLACE, () -> court.split(0, wrong));
        }
        Due.thrown("a place behind the last one", NO_PLACE, () -> court.split(0, 3));
        Due.thrown("no data type", CANNOT, () -> court.split(0, 2));
        Due.is("split", court.split(0, 1), 2);
        Due.is("the goal is split", court.goalState(0), 's');
        Due.thrown("not open", NOT_NOW, () -> court.split(0, 1));
        Due.thrown("not open, no data type", NOT_NOW, () -> court.split(0, 2));
        Due.thrown("no place before not open", NO_PLACE, () -> court.split(0, 3));
        Due.is("the lower constructor ahead", court.contextSize(1), 5);
        int[] types = {101, 101, 102, 101, 3};
        for (int i = 0; i < types.length; i++) {
            Due.is("a type of the context", court.contextType(1, i), types[i]);
        }
        Due.is("the one without arguments", court.contextSize(2), 2);
        Due.is("what was behind it", court.contextType(2, 1), 3);
        Due.is("the goal that is split keeps its context", court.contextSize(0), 3);
        Due.is("open goals", court.openGoals(0), 2);
        Due.thrown("a goal that was not made", NO_GOAL, () -> court.goalState(3));
        court.fill(2, court.variable(1));
        Due.thrown("a filled goal", NOT_NOW, () -> court.split(2, 0));
        Due.is("constructors have numbers", pair < nothing, true);
    }

    /** The types behind a variable that is split, and that of the goal, name the constructor then. */
    private static void splittingTypes() {
        Bench bench = Bench.withNumbers();
        TelescopeCourt court = bench.court;
        int d = bench.ofNumbers;
        int u0 = court.universe(0);
        int x = court.variable(0);
        int y = court.variable(1);
        int family = court.declare(bench.functions(d, d, u0));
        int of = court.functionNode(family);
        // (x : d) (y : d) (z : of x y) of y x
        int function = court.declare(bench.functions(d, d, bench.apply(of, y, x), bench.apply(of, y, court.variable(2))));
        Due.is("a type in the context", court.contextType(1, 2), court.number(bench.apply(of, y, x)));
        Due.is("split the outer one", court.split(1, 0), 2);
        int zero = court.constructorNode(bench.zero);
        int next = court.constructorNode(bench.next);
        Due.is("a type with zero", court.contextType(2, 1), court.number(bench.apply(of, zero, x)));
        Due.is("a goal with zero", court.goalType(2), court.number(bench.apply(of, y, zero)));
        Due.is("a type with next", court.contextType(3, 2), court.number(bench.apply(of, court.apply(next, y), x)));
        int goalNow = court.number(bench.apply(of, y, court.apply(next, court.variable(2))));
        Due.is("a goal with next", court.goalType(3), goalNow);
        Due.is("split the inner one", court.split(3, 1), 2);
        Due.is("the outer one comes down", court.contextType(4, 1),
                court.number(bench.apply(of, court.apply(next, x), zero)));
        Due.is("a goal with both", court.goalType(5),
                court.number(bench.apply(of, court.apply(next, y), court.apply(next, court.variable(2)))));
        Due.is("open goals", court.openGoals(function), 3);
    }

    private static void splittingIntoNothing() {
        Bench bench = Bench.withNumbers();
        TelescopeCourt court = bench.court;
        int empty = court.addData();
        court.declare(court.functions(court.dataNode(empty), bench.ofNumbers));
        Due.is("no constructors", court.split(0, 0), 0);
        Due.is("split", court.goalState(0), 's');
        Due.is("no open goals", court.openGoals(0), 0);
        Due.is("the next goal", bench.declareOverNumbers(1), 1);
        Due.is("has the next number", court.goalState(1), 'o');
    }

    private static void largeContexts() {
        TelescopeCourt court = new TelescopeCourt();
        int data = court.addData();
        court.addConstructor(data, 3, data, data, data);
        int d = court.dataNode(data);
        int pair = court.functions(d, d);
        court.declare(court.functions(d, court.functions(d, court.functions(d, pair))));
        for (int i = 0; i < 4; i++) {
            Due.is("split", court.split(i, 0), 1);
            Due.is("context", court.contextSize(i + 1), 6 + 2 * i);
        }
        Due.thrown("fourteen variables", NOT_NOW, () -> court.split(4, 11));
        Due.is("it is open as it was", court.goalState(4), 'o');
        Due.thrown("no goal was made", NO_GOAL, () -> court.goalState(5));
    }

    /** The last one of two constructors makes the context too large, by one variable. */
    private static void thirteenVariables() {
        Bench bench = new Bench();
        TelescopeCourt court = bench.court;
        int data = court.addData();
        court.addConstructor(data, 1, data, 0, 0);
        court.addConstructor(data, 2, data, data, 0);
        int d = court.dataNode(data);
        court.declare(bench.functions(d, d, d, d, d));
        int last = 0;
        for (int i = 0; i < 8; i++) {
            Due.is("split", court.split(last, 0), 2);
            last = last + 2;
            Due.is("context", court.contextSize(last), 5 + i);
        }
        int full = last;
        Due.thrown("thirteen variables", NOT_NOW, () -> court.split(full, 0));
        Due.is("it is open as it was", court.goalState(full), 'o');
    }

    /** A type that holds what stands in front of it below a variable of its own. */
    private static void fillingBelowBinders() {
        Bench bench = new Bench();
        TelescopeCourt court = bench.court;
        int u0 = court.universe(0);
        int x = court.variable(0);
        int y = court.variable(1);
        int z = court.variable(2);
        // (t : u0) (p : t -> u0) (h : (x : t) p x) (a : t) p a
        int all = court.functions(y, court.apply(y, x));
        court.declare(bench.functions(u0, court.functions(x, u0), all, z, court.apply(z, x)));
        Due.is("of a variable that is applied", court.fill(0, court.apply(y, x)), 0);
        Due.is("and found again", court.isSound(), true);
    }

    private static void largeTypes() {
        Bench bench = new Bench();
        TelescopeCourt court = bench.court;
        int data = court.addData();
        court.addConstructor(data, 3, data, data, data);
        int d = court.dataNode(data);
        court.declare(bench.functions(d, d, d, d, court.universe(0)));
        int x = court.variable(0);
        int many = bench.apply(court.functionNode(0), x, x, x, x);
        court.declare(bench.functions(d, many, d));
        Due.is("a size of 33", court.split(1, 0), 1);
        Due.is("a size of 57", court.split(2, 0), 1);
        Due.thrown("a size of 81", CANNOT, () -> court.split(3, 0));
        Due.is("it is open as it was", court.goalState(3), 'o');
        Due.thrown("no goal was made", NO_GOAL, () -> court.goalState(4));
        Due.thrown("another place", CANNOT, () -> court.split(3, 4));
        Due.is("a constructor may still come", court.addConstructor(court.addData(), 0, 0, 0, 0), 1);
        court.declare(court.functions(d, many));
        Due.is("the goal, 33", court.split(4, 0), 1);
        Due.is("the goal, 57", court.split(5, 0), 1);
        Due.thrown("the goal, 81", CANNOT, () -> court.split(6, 0));
    }

    private static void filling() {
        Bench bench = Bench.withNumbers();
        TelescopeCourt court = bench.court;
        int d = bench.ofNumbers;
        int function = bench.declareOverNumbers(2);
        int other = bench.declareOverNumbers(1);
        int x = court.variable(0);
        int y = court.variable(1);
        int z = court.variable(2);
        court.split(0, 0);
        for (int wrong : WRONG) {
            Due.thrown("no goal", NO_GOAL, () -> court.fill(wrong, x));
            Due.thrown("no node", NO_PLACE, () -> court.fill(2, wrong == 100 ? 250 : wrong));
        }
        Due.thrown("split", NOT_NOW, () -> court.fill(0, x));
        Due.thrown("split, no node", NO_PLACE, () -> court.fill(0, 250));
        Due.thrown("another type", CANNOT, () -> court.fill(2, d));
        Due.thrown("no type", CANNOT, () -> court.fill(2, z));
        Due.thrown("another's variable", CANNOT, () -> court.fill(2, y));
        int calling = court.apply(court.functionNode(other), x);
        Due.thrown("a call of what is not accepted", CANNOT, () -> court.fill(2, calling));
        int naming = court.apply(court.lambda(court.functions(d, d), bench.number(0)), court.functionNode(other));
        Due.thrown("one that is named alone", CANNOT, () -> court.fill(2, naming));
        Due.is("what throws leaves it open", court.goalState(2), 'o');
        Due.is("open goals then", court.fill(2, x), 1);
        Due.is("filled", court.goalState(2), 'f');
        Due.thrown("filled already", NOT_NOW, () -> court.fill(2, x));
        int own = bench.apply(court.functionNode(function), y, x);
        Due.is("its own number", court.fill(3, own), 0);
        Due.is("open goals of another", court.openGoals(other), 1);
        court.fill(1, bench.number(1));
        court.accept(other);
        court.reopen(2);
        Due.is("a call of an accepted one", court.fill(2, calling), 0);
    }

    private static void fillingByNormalForm() {
        Bench bench = Bench.withNumbers();
        TelescopeCourt court = bench.court;
        int u0 = court.universe(0);
        int x = court.variable(0);
        int y = court.variable(1);
        // (f : d -> u0) (x : f zero) f zero
        int family = court.functions(bench.ofNumbers, u0);
        court.declare(bench.functions(family, court.apply(x, bench.number(0)), court.apply(y, bench.number(0))));
        int ofPut = court.apply(court.lambda(u0, x), court.apply(y, bench.number(0)));
        Due.is("a type by its normal form", court.fill(0, court.apply(court.lambda(ofPut, x), x)), 0);
        Due.is("the size of what it was", court.reopen(0), 11);
        Due.thrown("of another place", CANNOT, () -> court.fill(0, y));
        Due.is("found by looking", court.auto(0), 1);
    }

    private static void finding() {
        Bench bench = Bench.withNumbers();
        TelescopeCourt court = bench.court;
        int d = bench.ofNumbers;
        int u0 = court.universe(0);
        court.declare(bench.functions(d, d, u0, d));
        for (int wrong : WRONG) {
            Due.thrown("no goal", NO_GOAL, () -> court.auto(wrong));
        }
        Due.is("the innermost one", court.auto(0), 1);
        Due.is("filled", court.goalState(0), 'f');
        Due.thrown("not open", NOT_NOW, () -> court.auto(0));
        Due.is("a variable", court.reopen(0), 1);
        court.split(0, 1);
        Due.is("without it", court.auto(1), 0);
        Due.is("with another in its place", court.auto(2), 1);
        Due.is("the whole is accepted", court.accept(0), 0);
        int zero = bench.number(0);
        Due.is("the variable is the right side",
                court.run(bench.apply(court.functionNode(0), bench.number(1), bench.number(3), d)), court.number(bench.number(2)));
        Due.is("and so it is here",
                court.run(bench.apply(court.functionNode(0), bench.number(1), zero, d)), court.number(bench.number(1)));
        court.declare(court.functions(d, u0));
        Due.thrown("none", CANNOT, () -> court.auto(3));
        Due.is("it is open as it was", court.goalState(3), 'o');
        // A type is found that names what stands in front of it, moved: (t : u0) (x : t) (y : t) (s : u0) t
        int x = court.variable(0);
        court.declare(bench.functions(u0, x, u0, court.variable(2)));
        Due.is("a moved type", court.auto(4), 1);
    }

    private static void opening() {
        Bench bench = Bench.withNumbers();
        TelescopeCourt court = bench.court;
        int function = bench.declareOverNumbers(1);
        for (int wrong : WRONG) {
            Due.thrown("no goal", NO_GOAL, () -> court.reopen(wrong));
        }
        Due.thrown("open", NOT_NOW, () -> court.reopen(0));
        court.fill(0, bench.number(4));
        Due.is("the size of what it was", court.reopen(0), 9);
        Due.is("open again", court.goalState(0), 'o');
        Due.is("open goals", court.openGoals(function), 1);
        Due.is("split now", court.split(0, 0), 2);
        Due.thrown("split", NOT_NOW, () -> court.reopen(0));
        court.fill(1, court.constructorNode(bench.zero));
        court.fill(2, court.variable(0));
        Due.is("before it is accepted", court.reopen(2), 1);
        court.fill(2, court.variable(0));
        court.accept(function);
        Due.thrown("accepted", NOT_NOW, () -> court.reopen(2));
        Due.is("filled as it was", court.goalState(2), 'f');
    }

    private static void asking() {
        Bench bench = Bench.withNumbers();
        TelescopeCourt court = bench.court;
        bench.declareOverNumbers(2);
        for (int wrong : WRONG) {
            Due.thrown("goalState", NO_GOAL, () -> court.goalState(wrong));
            Due.thrown("contextSize", NO_GOAL, () -> court.contextSize(wrong));
            Due.thrown("contextType, goal", NO_GOAL, () -> court.contextType(wrong, 0));
            Due.thrown("contextType, both", NO_GOAL, () -> court.contextType(wrong, 9));
            Due.thrown("contextType, place", NO_PLACE, () -> court.contextType(0, wrong));
            Due.thrown("goalType", NO_GOAL, () -> court.goalType(wrong));
            Due.thrown("openGoals", NO_GOAL, () -> court.openGoals(wrong));
        }
        Due.thrown("goalState 1", NO_GOAL, () -> court.goalState(1));
        Due.thrown("contextSize 1", NO_GOAL, () -> court.contextSize(1));
        Due.thrown("goalType 1", NO_GOAL, () -> court.goalType(1));
        Due.thrown("openGoals 1", NO_GOAL, () -> court.openGoals(1));
        Due.thrown("contextType at 2", NO_PLACE, () -> court.contextType(0, 2));
        Due.is("state", court.goalState(0), 'o');
        Due.is("context", court.contextSize(0), 2);
        Due.is("types", court.contextType(0, 1), 101);
        Due.is("type", court.goalType(0), 101);
        Due.is("open goals", court.openGoals(0), 1);
        court.split(0, 1);
        Due.is("state of a split one", court.goalState(0), 's');
        Due.is("context of a split one", court.contextSize(0), 2);
        Due.is("type of a split one", court.goalType(0), 101);
        Due.is("open goals of its function", court.openGoals(0), 2);
        court.auto(1);
        Due.is("state of a filled one", court.goalState(1), 'f');
        Due.is("context of a filled one", court.contextSize(1), 1);
        Due.is("open goals then", court.openGoals(0), 1);
    }

    public static void main(String[] args) {
        declaring();
        fullOfGoals();
        splitting();
        splittingTypes();
        splittingIntoNothing();
        largeContexts();
        thirteenVariables();
        largeTypes();
        fillingBelowBinders();
        filling();
        fillingByNormalForm();
        finding();
        opening();
        asking();
        Due.end();
    }
}
