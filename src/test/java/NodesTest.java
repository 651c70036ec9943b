import java.util.NoSuchElementException;

/** Promises 1 to 11: a new object, nodes, data types and constructors. */
public final class NodesTest {
    private static final int[] NO_NODES = {-1, Integer.MIN_VALUE, Integer.MAX_VALUE, 250};

    private static void newObject() {
        TelescopeCourt one = new TelescopeCourt();
        Due.thrown("no node yet", IndexOutOfBoundsException.class, () -> one.size(0));
        Due.thrown("no data yet", NoSuchElementException.class, () -> one.dataNode(0));
        Due.thrown("no constructor yet", NoSuchElementException.class, () -> one.constructorNode(0));
        Due.thrown("no function yet", NoSuchElementException.class, () -> one.functionNode(0));
        Due.thrown("no goal yet", NoSuchElementException.class, () -> one.goalState(0));
        Due.is("steps of a new one", one.allSteps(), 0L);
        Due.is("soundness of a new one", one.isSound(), true);
        TelescopeCourt other = new TelescopeCourt();
        other.addData();
        other.universe(0);
        Due.is("first data type", one.addData(), 0);
        Due.is("first node", one.universe(0), 0);
    }

    private static void leaves() {
        TelescopeCourt court = new TelescopeCourt();
        for (int i = 0; i < 4; i++) {
            Due.is("universe", court.universe(i), i);
            Due.is("number of a universe", court.number(i), 3 + i);
        }
        for (int i = 0; i < 16; i++) {
            Due.is("variable", court.variable(i), 4 + i);
            Due.is("number of a variable", court.number(4 + i), 11 + i);
        }
        for (int wrong : new int[] {-1, 4, Integer.MIN_VALUE, Integer.MAX_VALUE}) {
            Due.thrown("universe " + wrong, IllegalArgumentException.class, () -> court.universe(wrong));
        }
        for (int wrong : new int[] {-1, 16, Integer.MIN_VALUE, Integer.MAX_VALUE}) {
            Due.thrown("variable " + wrong, IllegalArgumentException.class, () -> court.variable(wrong));
        }
        Due.is("what throws lays nothing", court.universe(0), 20);
    }

    private static void pairs() {
        TelescopeCourt court = new TelescopeCourt();
        int universe = court.universe(1);
        int variable = court.variable(2);
        Due.is("functions", court.functions(universe, variable), 2);
        Due.is("number of functions", court.number(2), 7 * 4 + 13 * 13 + 17);
        Due.is("lambda", court.lambda(universe, variable), 3);
        Due.is("number of a lambda", court.number(3), 11 * 4 + 19 * 13 + 23);
        Due.is("apply", court.apply(universe, variable), 4);
        Due.is("number of an application", court.number(4), 29 * 4 + 31 * 13 + 37);
        Due.is("a node twice", court.apply(4, 4), 5);
        Due.is("its size", court.size(5), 7);
        for (int wrong : new int[] {-1, 6, Integer.MIN_VALUE, Integer.MAX_VALUE}) {
            Due.thrown("functions, first", IndexOutOfBoundsException.class, () -> court.functions(wrong, 0));
            Due.thrown("functions, second", IndexOutOfBoundsException.class, () -> court.functions(0, wrong));
            Due.thrown("lambda, first", IndexOutOfBoundsException.class, () -> court.lambda(wrong, 0));
            Due.thrown("lambda, second", IndexOutOfBoundsException.class, () -> court.lambda(0, wrong));
            Due.thrown("apply, first", IndexOutOfBoundsException.class, () -> court.apply(wrong, 0));
            Due.thrown("apply, second", IndexOutOfBoundsException.class, () -> court.apply(0, wrong));
        }
    }

    private static void sizes() {
        TelescopeCourt court = new TelescopeCourt();
        court.universe(0);
        int last = 0;
        for (int i = 0; i < 14; i++) {
            last = court.functions(0, last);
        }
        int large = last;
        Due.is("the largest size", court.size(large), 29);
        Due.thrown("functions of 31", IllegalStateException.class, () -> court.functions(large, 0));
        Due.thrown("lambda of 31", IllegalStateException.class, () -> court.lambda(0, large));
        Due.thrown("apply of 31", IllegalStateException.class, () -> court.apply(large, 0));
        Due.thrown("apply of 59", IllegalStateException.class, () -> court.apply(large, large));
        Due.thrown("no node before too large", IndexOutOfBoundsException.class, () -> court.apply(large, 99));
        Due.is("what throws lays nothing", court.universe(0), 15);
    }

    private static void full() {
        Bench bench = Bench.withNumbers();
        TelescopeCourt court = bench.court;
        bench.declareOverNumbers(1);
        Due.is("the last node", bench.layFull(), 249);
        Due.thrown("universe", IllegalStateException.class, () -> court.universe(0));
        Due.thrown("universe out of range", IllegalArgumentException.class, () -> court.universe(4));
        Due.thrown("variable", IllegalStateException.class, () -> court.variable(0));
        Due.thrown("variable out of range", IllegalArgumentException.class, () -> court.variable(-1));
        Due.thrown("functions", IllegalStateException.class, () -> court.functions(0, 249));
        Due.thrown("lambda", IllegalStateException.class, () -> court.lambda(0, 0));
        Due.thrown("apply", IllegalStateException.class, () -> court.apply(0, 0));
        for (int wrong : NO_NODES) {
            Due.thrown("functions of none", IndexOutOfBoundsException.class, () -> court.functions(0, wrong));
            Due.thrown("lambda of none", IndexOutOfBoundsException.class, () -> court.lambda(wrong, 0));
            Due.thrown("apply of none", IndexOutOfBoundsException.class, () -> court.apply(wrong, wrong));
        }
        Due.thrown("dataNode", IllegalStateException.class, () -> court.dataNode(0));
        Due.thrown("dataNode of none", NoSuchElementException.class, () -> court.dataNode(1));
        Due.thrown("constructorNode", IllegalStateException.class, () -> court.constructorNode(1));
        Due.thrown("constructorNode of none", NoSuchElementException.class, () -> court.constructorNode(2));
        Due.thrown("functionNode", IllegalStateException.class, () -> court.functionNode(0));
        Due.thrown("functionNode of none", NoSuchElementException.class, () -> court.functionNode(1));
    }

    private static void numbered() {
        Bench bench = Bench.withNumbers();
        TelescopeCourt court = bench.court;
        bench.declareOverNumbers(1);
        bench.declareOverNumbers(2);
        Due.is("number of a data type", court.number(court.dataNode(0)), 101);
        Due.is("number of a constructor", court.number(court.constructorNode(1)), 202);
        Due.is("number of a function", court.number(court.functionNode(1)), 302);
        for (int wrong : new int[] {-1, Integer.MIN_VALUE, Integer.MAX_VALUE}) {
            Due.thrown("dataNode", NoSuchElementException.class, () -> court.dataNode(wrong));
            Due.thrown("constructorNode", NoSuchElementException.class, () -> court.constructorNode(wrong));
            Due.thrown("functionNode", NoSuchElementException.class, () -> court.functionNode(wrong));
        }
        Due.thrown("dataNode 1", NoSuchElementException.class, () -> court.dataNode(1));
        Due.thrown("constructorNode 2", NoSuchElementException.class, () -> court.constructorNode(2));
        Due.thrown("functionNode 2", NoSuchElementException.class, () -> court.functionNode(2));
    }

    private static void dataTypes() {
        TelescopeCourt court = new TelescopeCourt();
        for (int i = 0; i < 6; i++) {
            Due.is("addData", court.addData(), i);
        }
        Due.thrown("a seventh data type", IllegalStateException.class, court::addData);
        Due.thrown("its node", NoSuchElementException.class, () -> court.dataNode(6));
    }

    private static void constructors() {
        TelescopeCourt court = new TelescopeCourt();
        court.addData();
        court.addData();
        Due.is("without arguments", court.addConstructor(0, 0, 9, -9, 9), 0);
        Due.is("with one", court.addConstructor(0, 1, 1, 9, 9), 1);
        Due.is("with two", court.addConstructor(0, 2, 1, 0, 9), 2);
        Due.is("with three", court.addConstructor(1, 3, 1, 0, 1), 3);
        int many = court.typeOf(court.constructorNode(3));
        int one = 101;
        int two = 102;
        Due.is("the type of three", many, 7 * two + 13 * (7 * one + 13 * (7 * two + 13 * two + 17) + 17) + 17);
        Due.is("the type of none", court.typeOf(court.constructorNode(0)), one);
        Due.thrown("many -1", IllegalArgumentException.class, () -> court.addConstructor(0, -1, 0, 0, 0));
        Due.thrown("many 4", IllegalArgumentException.class, () -> court.addConstructor(0, 4, 0, 0, 0));
        Due.thrown("many before data", IllegalArgumentException.class, () -> court.addConstructor(9, 4, 0, 0, 0));
        for (int wrong : new int[] {-1, 2, Integer.MIN_VALUE, Integer.MAX_VALUE}) {
            Due.thrown("data", NoSuchElementException.class, () -> court.addConstructor(wrong, 0, 0, 0, 0));
            Due.thrown("first", NoSuchElementException.class, () -> court.addConstructor(0, 1, wrong, 0, 0));
            Due.thrown("second", NoSuchElementException.class, () -> court.addConstructor(0, 2, 0, wrong, 0));
            Due.thrown("third", NoSuchElementException.class, () -> court.addConstructor(0, 3, 0, 0, wrong));
        }
        for (int i = 4; i < 16; i++) {
            Due.is("addConstructor", court.addConstructor(1, 0, 0, 0, 0), i);
        }
        Due.thrown("a seventeenth", IllegalStateException.class, () -> court.addConstructor(0, 0, 0, 0, 0));
        Due.thrown("no data before full", NoSuchElementException.class, () -> court.addConstructor(2, 0, 0, 0, 0));
    }

    private static void constructorsBehindSplits() {
        Bench bench = Bench.withNumbers();
        TelescopeCourt court = bench.court;
        int empty = court.addData();
        int fromEmpty = court.declare(court.functions(court.dataNode(empty), bench.ofNumbers));
        bench.declareOverNumbers(1);
        court.split(1, 0);
        Due.thrown("its type was split", IllegalStateException.class, () -> court.addConstructor(0, 0, 0, 0, 0));
        int third = court.addData();
        Due.is("another type", court.addConstructor(third, 1, empty, 0, 0), 2);
        court.split(0, 0);
        Due.thrown("split into nothing", IllegalStateException.class, () -> court.addConstructor(empty, 0, 0, 0, 0));
        Due.is("still another type", court.addConstructor(third, 0, 0, 0, 0), 3);
        court.accept(fromEmpty);
        Due.thrown("a function is accepted", IllegalStateException.class,
                () -> court.addConstructor(third, 0, 0, 0, 0));
        Due.thrown("many before accepted", IllegalArgumentException.class,
                () -> court.addConstructor(third, 4, 0, 0, 0));
        Due.thrown("data before accepted", NoSuchElementException.class,
                () -> court.addConstructor(3, 0, 0, 0, 0));
        Due.is("data types may still come", court.addData(), 3);
        Due.thrown("no constructor was added", NoSuchElementException.class, () -> court.constructorNode(4));
    }

    public static void main(String[] args) {
        newObject();
        leaves();
        pairs();
        sizes();
        full();
        numbered();
        dataTypes();
        constructors();
        constructorsBehindSplits();
        Due.end();
    }
}
