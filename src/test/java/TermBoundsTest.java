import java.util.NoSuchElementException;

/** The bounds that the document names for promises 1 to 17, each sentence with its last value and the first beyond. */
public final class TermBoundsTest {
    private static final Class<IndexOutOfBoundsException> NO_NODE = IndexOutOfBoundsException.class;
    private static final Class<NoSuchElementException> NO_SUCH = NoSuchElementException.class;
    private static final Class<IllegalArgumentException> NO_ARGUMENT = IllegalArgumentException.class;
    private static final Class<IllegalStateException> NOT_NOW = IllegalStateException.class;
    private static final Class<UnsupportedOperationException> NONE = UnsupportedOperationException.class;

    private interface Lay {
        int by(TelescopeCourt court);
    }

    private static final String[] KINDS = {
        "universe", "variable", "functions", "lambda", "apply", "dataNode", "constructorNode", "functionNode"};
    private static final Lay[] LAYS = {
        court -> court.universe(3), court -> court.variable(15), court -> court.functions(0, 1),
        court -> court.lambda(0, 1), court -> court.apply(0, 1), court -> court.dataNode(0),
        court -> court.constructorNode(1), court -> court.functionNode(0)};

    private static int functionsNumber(int domain, int codomain) {
        return (7 * domain + 13 * codomain + 17) % 1000003;
    }

    /** "Creates a court without nodes, data and functions." */
    private static void theEmptyCourt() {
        TelescopeCourt court = new TelescopeCourt();
        for (int any : new int[] {0, 1, -1, Integer.MIN_VALUE, Integer.MAX_VALUE}) {
            Due.thrown("functions", NO_NODE, () -> court.functions(any, any));
            Due.thrown("lambda", NO_NODE, () -> court.lambda(any, any));
            Due.thrown("apply", NO_NODE, () -> court.apply(any, any));
            Due.thrown("dataNode", NO_SUCH, () -> court.dataNode(any));
            Due.thrown("constructorNode", NO_SUCH, () -> court.constructorNode(any));
            Due.thrown("functionNode", NO_SUCH, () -> court.functionNode(any));
            Due.thrown("addConstructor", NO_SUCH, () -> court.addConstructor(any, 0, 0, 0, 0));
            Due.thrown("size", NO_NODE, () -> court.size(any));
            Due.thrown("number", NO_NODE, () -> court.number(any));
            Due.thrown("normal", NO_NODE, () -> court.normal(any));
            Due.thrown("typeOf", NO_NODE, () -> court.typeOf(any));
            Due.thrown("level", NO_NODE, () -> court.level(any));
            Due.thrown("isOf", NO_NODE, () -> court.isOf(any, any));
            Due.thrown("declare", NO_NODE, () -> court.declare(any));
            Due.thrown("split", NO_SUCH, () -> court.split(any, any));
            Due.thrown("fill", NO_SUCH, () -> court.fill(any, any));
            Due.thrown("auto", NO_SUCH, () -> court.auto(any));
            Due.thrown("reopen", NO_SUCH, () -> court.reopen(any));
            Due.thrown("goalState", NO_SUCH, () -> court.goalState(any));
            Due.thrown("contextSize", NO_SUCH, () -> court.contextSize(any));
            Due.thrown("contextType", NO_SUCH, () -> court.contextType(any, any));
            Due.thrown("goalType", NO_SUCH, () -> court.goalType(any));
            Due.thrown("openGoals", NO_SUCH, () -> court.openGoals(any));
            Due.thrown("accept", NO_SUCH, () -> court.accept(any));
            Due.thrown("isAccepted", NO_SUCH, () -> court.isAccepted(any));
            Due.thrown("run", NO_NODE, () -> court.run(any));
            Due.thrown("runByClauses", NO_NODE, () -> court.runByClauses(any));
            Due.thrown("steps", NO_NODE, () -> court.steps(any));
            Due.thrown("valueSize", NO_NODE, () -> court.valueSize(any));
        }
        Due.is("allSteps", court.allSteps(), 0L);
        Due.thrown("filledShare", ArithmeticException.class, court::filledShare);
        Due.thrown("meanSize", ArithmeticException.class, court::meanSize);
        Due.is("isSound", court.isSound(), true);
        Due.is("the first node", court.universe(0), 0);
        Due.is("the first data type", court.addData(), 0);
        Due.is("the first constructor", court.addConstructor(0, 0, 0, 0, 0), 0);
        Due.is("the first function", court.declare(court.functions(court.dataNode(0), court.dataNode(0))), 0);
        Due.is("the first goal", court.goalState(0), 'o');
    }

    /** "At most 250 nodes exist, numbered from 0": each kind can be the last one, and none comes behind it. */
    private static void theLastNode() {
        for (int i = 0; i < KINDS.length; i++) {
            Bench bench = Bench.withNumbers();
            TelescopeCourt court = bench.court;
            bench.declareOverNumbers(1);
            bench.layUpTo(249);
            Due.thrown(KINDS[i] + ", no such node yet", NO_NODE, () -> court.size(249));
            Due.is(KINDS[i] + ", the last one", LAYS[i].by(court), 249);
            Due.is(KINDS[i] + ", its size", court.size(249), i < 2 || i > 4 ? 1 : 2 + court.size(1));
            for (int j = 0; j < KINDS.length; j++) {
                Lay lay = LAYS[j];
                Due.thrown(KINDS[j] + " behind the last one", NOT_NOW, () -> lay.by(court));
            }
            Due.thrown(KINDS[i] + ", no such node", NO_NODE, () -> court.size(250));
            Due.is("a function needs no node", court.openGoals(0), 1);
        }
    }

    /** "Throws IllegalArgumentException if the level is out of range": 0 to 3; of an index: 0 to 15. */
    private static void leaves() {
        TelescopeCourt court = new TelescopeCourt();
        Due.is("the lowest level", court.number(court.universe(0)), 3);
        Due.is("the highest level", court.number(court.universe(3)), 6);
        Due.is("the lowest index", court.number(court.variable(0)), 11);
        Due.is("the highest index", court.number(court.variable(15)), 26);
        for (int beyond : new int[] {-1, 4, 15, 16, 256, -256, 1 << 16, Integer.MIN_VALUE, Integer.MAX_VALUE}) {
            Due.thrown("universe " + beyond, NO_ARGUMENT, () -> court.universe(beyond));
        }
        for (int beyond : new int[] {-1, 16, 17, 256, -256, 1 << 16, Integer.MIN_VALUE, Integer.MAX_VALUE}) {
            Due.thrown("variable " + beyond, NO_ARGUMENT, () -> court.variable(beyond));
        }
        Due.is("none was laid", court.universe(0), 4);
    }

    private static int ofSize(Bench bench, int size) {
        int made = bench.court.universe(0);
        for (int i = 1; i < size; i += 2) {
            made = bench.court.functions(bench.court.universe(0), made);
        }
        return made;
    }

    /** "no node has a size of more than 30": sizes are odd, so that 29 is the largest one. */
    private static void theLargestNode() {
        for (int ahead = 1; ahead < 30; ahead += 2) {
            Bench bench = new Bench();
            TelescopeCourt court = bench.court;
            int first = ofSize(bench, ahead);
            int second = ofSize(bench, 28 - ahead < 1 ? 1 : 28 - ahead);
            int larger = ofSize(bench, 30 - ahead);
            if (ahead < 29) {
                Due.is("functions of 29", court.size(court.functions(first, second)), 29);
                Due.is("lambda of 29", court.size(court.lambda(first, second)), 29);
                Due.is("apply of 29", court.size(court.apply(first, second)), 29);
            }
            int next = court.universe(1) + 1;
            Due.thrown("functions of 31", NOT_NOW, () -> court.functions(first, larger));
            Due.thrown("lambda of 31", NOT_NOW, () -> court.lambda(first, larger));
            Due.thrown("apply of 31", NOT_NOW, () -> court.apply(first, larger));
            Due.thrown("functions, no second part", NO_NODE, () -> court.functions(first, next));
            Due.thrown("lambda, no first part", NO_NODE, () -> court.lambda(next, first));
            Due.thrown("apply, no part", NO_NODE, () -> court.apply(next, next));
            Due.is("none was laid", court.universe(1), next);
        }
    }

    /** "At most 6 data types exist", and a data type without constructors is one. */
    private static void theLastDataType() {
        TelescopeCourt court = new TelescopeCourt();
        for (int i = 0; i < 6; i++) {
            int data = i;
            Due.thrown("no such data type yet", NO_SUCH, () -> court.dataNode(data));
            Due.is("a data type", court.addData(), i);
            Due.is("its type", court.typeOf(court.dataNode(i)), 3);
        }
        for (int i = 0; i < 3; i++) {
            Due.thrown("a seventh one", NOT_NOW, court::addData);
        }
        Due.thrown("it is not there", NO_SUCH, () -> court.dataNode(6));
        Due.thrown("nor for a constructor", NO_SUCH, () -> court.addConstructor(6, 0, 0, 0, 0));
        Due.is("a constructor of the last one", court.addConstructor(5, 3, 5, 0, 5), 0);
    }

    /** "At most 16 constructors", of all data types together. */
    private static void theLastConstructor() {
        TelescopeCourt court = new TelescopeCourt();
        court.addData();
        court.addData();
        for (int i = 0; i < 16; i++) {
            int constructor = i;
            Due.thrown("no such constructor yet", NO_SUCH, () -> court.constructorNode(constructor));
            Due.is("a constructor", court.addConstructor(i % 2, i % 4, 1, 0, 1), i);
            Due.is("its number", court.number(court.constructorNode(i)), 201 + i);
        }
        for (int data = 0; data < 2; data++) {
            int of = data;
            Due.thrown("a seventeenth one", NOT_NOW, () -> court.addConstructor(of, 0, 0, 0, 0));
            Due.thrown("with three arguments", NOT_NOW, () -> court.addConstructor(of, 3, 0, 1, 0));
            Due.thrown("with too many", NO_ARGUMENT, () -> court.addConstructor(of, 4, 0, 0, 0));
            Due.thrown("with too few", NO_ARGUMENT, () -> court.addConstructor(of, -1, 0, 0, 0));
            Due.thrown("of none", NO_SUCH, () -> court.addConstructor(2, 0, 0, 0, 0));
            Due.thrown("over none", NO_SUCH, () -> court.addConstructor(of, 3, 0, 1, 2));
        }
        Due.thrown("it is not there", NO_SUCH, () -> court.constructorNode(16));
        Due.is("the last one", court.typeOf(court.constructorNode(15)),
                functionsNumber(102, functionsNumber(101, functionsNumber(102, 102))));
    }

    /** "takes 0 to 3 arguments": those behind the last one have no meaning, the others are looked at. */
    private static void argumentsOfConstructors() {
        TelescopeCourt court = new TelescopeCourt();
        court.addData();
        court.addData();
        for (int junk : new int[] {-1, 2, 6, Integer.MIN_VALUE, Integer.MAX_VALUE}) {
            Due.thrown("many", NO_ARGUMENT, () -> court.addConstructor(0, junk == 2 ? 4 : junk, 0, 0, 0));
            Due.thrown("many and data", NO_ARGUMENT, () -> court.addConstructor(junk, 4, junk, junk, junk));
            Due.thrown("of none", NO_SUCH, () -> court.addConstructor(junk, 0, 0, 0, 0));
            Due.thrown("the first of one", NO_SUCH, () -> court.addConstructor(0, 1, junk, 0, 0));
            Due.thrown("the first of two", NO_SUCH, () -> court.addConstructor(0, 2, junk, 0, 0));
            Due.thrown("the second of two", NO_SUCH, () -> court.addConstructor(0, 2, 0, junk, 0));
            Due.thrown("the first of three", NO_SUCH, () -> court.addConstructor(0, 3, junk, 0, 0));
            Due.thrown("the second of three", NO_SUCH, () -> court.addConstructor(0, 3, 0, junk, 0));
            Due.thrown("the third of three", NO_SUCH, () -> court.addConstructor(0, 3, 0, 0, junk));
        }
        int made = 0;
        for (int junk : new int[] {-1, Integer.MIN_VALUE, Integer.MAX_VALUE}) {
            Due.is("none behind none", court.addConstructor(1, 0, junk, junk, junk), made);
            Due.is("its type", court.typeOf(court.constructorNode(made)), 102);
            Due.is("none behind one", court.addConstructor(1, 1, 0, junk, junk), made + 1);
            Due.is("its type", court.typeOf(court.constructorNode(made + 1)), functionsNumber(101, 102));
            Due.is("none behind two", court.addConstructor(1, 2, 0, 1, junk), made + 2);
            Due.is("its type", court.typeOf(court.constructorNode(made + 2)),
                    functionsNumber(101, functionsNumber(102, 102)));
            made += 3;
        }
        Due.is("three of its own", court.addConstructor(0, 3, 0, 0, 0), made);
    }

    /** "a goal was ever split by a variable of this data type": not before, nor one of another data type. */
    private static void constructorsBehindSplits() {
        Bench bench = Bench.withNumbers();
        TelescopeCourt court = bench.court;
        int other = court.addData();
        court.addConstructor(other, 1, bench.numbers, 0, 0);
        court.declare(bench.term("{d1 d0 d0}"));
        Due.is("ahead of a split", court.addConstructor(0, 0, 0, 0, 0), 3);
        court.split(0, 0);
        Due.is("one of another", court.addConstructor(0, 1, 1, 0, 0), 4);
        Due.thrown("its own", NOT_NOW, () -> court.addConstructor(1, 0, 0, 0, 0));
        Due.is("it is an argument still", court.addConstructor(0, 3, 1, 1, 1), 5);
        court.fill(1, bench.term("v1"));
        Due.is("what is filled is not accepted", court.addConstructor(0, 0, 0, 0, 0), 6);
        court.reopen(1);
        court.split(1, 0);
        Due.thrown("both now", NOT_NOW, () -> court.addConstructor(0, 0, 0, 0, 0));
        Due.is("a new data type", court.addConstructor(court.addData(), 1, 0, 0, 0), 7);
    }

    /** "A function is accepted": no constructor comes then, of no data type. */
    private static void constructorsBehindAcceptedOnes() {
        Bench bench = Bench.withNumbers();
        TelescopeCourt court = bench.court;
        bench.declareOverNumbers(1);
        court.auto(0);
        Due.is("before", court.addConstructor(0, 0, 0, 0, 0), 2);
        court.accept(0);
        for (int i = 0; i < 6; i++) {
            int data = i == 0 ? 0 : court.addData();
            Due.thrown("then", NOT_NOW, () -> court.addConstructor(data, 0, 0, 0, 0));
            Due.thrown("many ahead of it", NO_ARGUMENT, () -> court.addConstructor(data, 4, 0, 0, 0));
            Due.thrown("an argument ahead of it", NO_SUCH, () -> court.addConstructor(data, 1, data + 1, 0, 0));
        }
        Due.thrown("none was made", NO_SUCH, () -> court.constructorNode(3));
    }

    /** Calls that ask a node, of the first one, the last one and those beyond. */
    private static void nodesThatAreAsked() {
        Bench bench = new Bench();
        TelescopeCourt court = bench.court;
        bench.layUpTo(250);
        for (int there : new int[] {0, 249}) {
            Due.is("size", court.size(there), 1);
            Due.is("number", court.number(there), 3);
            Due.is("normal", court.normal(there), 3);
            Due.is("typeOf", court.typeOf(there), 4);
            Due.is("level", court.level(there), 1);
            Due.is("isOf", court.isOf(there, 249 - there), false);
            Due.thrown("declare", NONE, () -> court.declare(there));
            Due.thrown("run", NONE, () -> court.run(there));
        }
        for (int beyond : new int[] {-1, 250, 251, 65536, Integer.MIN_VALUE, Integer.MAX_VALUE}) {
            Due.thrown("size", NO_NODE, () -> court.size(beyond));
            Due.thrown("number", NO_NODE, () -> court.number(beyond));
            Due.thrown("normal", NO_NODE, () -> court.normal(beyond));
            Due.thrown("typeOf", NO_NODE, () -> court.typeOf(beyond));
            Due.thrown("level", NO_NODE, () -> court.level(beyond));
            Due.thrown("isOf, the first", NO_NODE, () -> court.isOf(beyond, 249));
            Due.thrown("isOf, the second", NO_NODE, () -> court.isOf(0, beyond));
            Due.thrown("isOf, both", NO_NODE, () -> court.isOf(beyond, beyond));
        }
    }

    /** "the remainder is taken when it is divided by 1000003": sums of one less, of just this, and of one more. */
    private static void remainders() {
        Bench bench = new Bench();
        TelescopeCourt court = bench.court;
        Due.is("an application of one less", court.number(bench.term("((v7 v2) (v15 (u3 v14)))")), 1000002);
        Due.is("an application of just this", court.number(bench.term("((v15 (v7 v6)) v12)")), 0);
        Due.is("an application of one more", court.number(bench.term("((u0 u0) (u0 (v4 v7)))")), 1);
        Due.is("functions of just this", court.number(bench.term("{(u1 (v15 v15)) (v11 (v15 v15))}")), 0);
        Due.is("a lambda of one less", court.number(bench.term("[(u0 (u0 v14)) (v8 (v3 v12))]")), 1000002);
        Due.is("a lambda of just this", court.number(bench.term("[{u0 (u0 v12)} (v10 (v15 v11))]")), 0);
        Due.is("a lambda of one more", court.number(bench.term("[{u0 (u0 v9)} (v1 (v15 v12))]")), 1);
        int least = bench.term("((v15 (v7 v6)) v12)");
        Due.is("one of a number 0", court.number(court.lambda(least, least)), 23);
    }

    private static String copies(int many, String tail) {
        StringBuilder text = new StringBuilder("[u0 {");
        for (int i = 0; i < many; i++) {
            text.append('v').append(i).append(' ');
        }
        return text.append(tail).append("}]").toString();
    }

    private static int copiesNumber(int many, int of, int tail) {
        int made = tail;
        for (int i = 0; i < many; i++) {
            made = functionsNumber(of, made);
        }
        return made;
    }

    private static final String NINE = "{u0 u0 u0 u0 u0}";

    private static int nineNumber() {
        return copiesNumber(4, 3, 3);
    }

    /** "a size of more than 80", of the normal form: 79 and 81. */
    private static void theLargestForm() {
        Bench bench = new Bench();
        TelescopeCourt court = bench.court;
        int fits = bench.term("(" + copies(7, "v7") + " " + NINE + ")");
        Due.is("79", court.normal(fits), copiesNumber(7, nineNumber(), nineNumber()));
        int beyond = bench.term("(" + copies(8, "u0") + " " + NINE + ")");
        Due.thrown("81", NONE, () -> court.normal(beyond));
        Due.thrown("no level of it", NONE, () -> court.level(beyond));
        Due.is("nothing is of it", court.isOf(fits, beyond), false);
        Due.is("nor is it of anything", court.isOf(beyond, fits), false);
    }

    /**
     * "or a term on the way": a part makes copies, which are made larger one after another, ahead of a last one that
     * is put away. If the last one was put away first, both would have a normal form.
     */
    private static void theLargestOnTheWay() {
        Bench bench = new Bench();
        TelescopeCourt court = bench.court;
        int fits = bench.term("(" + copies(3, "([u0 u0] v3)") + " (" + copies(1, "v1") + " " + NINE + "))");
        Due.is("79 on the way", court.normal(fits),
                copiesNumber(3, copiesNumber(1, nineNumber(), nineNumber()), 3));
        int beyond = bench.term("(" + copies(2, "([u0 u0] v2)") + " (" + copies(2, "v2") + " " + NINE + "))");
        Due.thrown("81 on the way", NONE, () -> court.normal(beyond));
        int alone = bench.term("(" + copies(2, "u0") + " (" + copies(2, "v2") + " " + NINE + "))");
        Due.is("without the last one", court.normal(alone),
                copiesNumber(2, copiesNumber(2, nineNumber(), nineNumber()), 3));
    }

    /** "a term comes ahead of its parts": what would be too large is put away before it is made. */
    private static void theOrderOfSteps() {
        Bench bench = new Bench();
        TelescopeCourt court = bench.court;
        int large = bench.term("(" + copies(8, "u0") + " " + NINE + ")");
        int drop = bench.term("[u0 u1]");
        Due.thrown("too large to be laid", NOT_NOW, () -> court.apply(drop, large));
        int lean = bench.term("([u0 {v0 v1 v2 v3}] ([u0 {v0 v1 v2 v3}] {u0 u0 u0}))");
        Due.thrown("95 in the end", NONE, () -> court.normal(lean));
        Due.is("95 is put away", court.normal(court.apply(drop, lean)), 4);
        int self = bench.term("([u0 (v0 v0)] [u0 (v0 v0)])");
        Due.thrown("without an end", NONE, () -> court.normal(self));
        Due.is("its end is put away", court.normal(court.apply(drop, self)), 4);
        Due.thrown("ahead of a small one", NONE, () -> court.normal(court.apply(self, drop)));
    }

    /** "more than 20 steps": twenty, and one more. */
    private static void theLastStep() {
        Bench bench = new Bench();
        TelescopeCourt court = bench.court;
        String twice = copies(1, "v1");
        String thrice = copies(2, "v2");
        int third = copiesNumber(2, 3, 3);
        int pair = functionsNumber(third, third);
        int twenty = bench.term("([u0 v0] (" + twice + " (" + twice + " (" + thrice + " ([u0 v0] u0)))))");
        Due.is("1 + 1 + 2 (1 + 2 (1 + 3)) is 20", court.normal(twenty), functionsNumber(pair, pair));
        int more = bench.term("(" + twice + " (" + thrice + " (" + twice + " ([u0 v0] u0))))");
        Due.thrown("1 + 2 (1 + 3 (1 + 2)) is 21", NONE, () -> court.normal(more));
        Due.is("nothing is of it", court.isOf(twenty, more), false);
    }

    /** The same of a type, where each variable f that is applied so often gets a lambda with two copies. */
    private static void theLastStepOfAType() {
        Bench bench = Bench.withNumbers();
        TelescopeCourt court = bench.court;
        int twice = bench.term(copies(1, "v1"));
        court.declare(bench.term("{{u0 u0} (v0 (v0 (v0 (v0 d0)))) (v1 (v1 d0)) (v2 d0) (v3 d0)}"));
        int[] copied = new int[5];
        copied[0] = 101;
        for (int i = 1; i < 5; i++) {
            copied[i] = functionsNumber(copied[i - 1], copied[i - 1]);
        }
        Due.is("15 + 3 + 1 + 1 steps", court.typeOf(court.apply(court.functionNode(0), twice)),
                functionsNumber(copied[4], functionsNumber(copied[2], functionsNumber(copied[1], copied[1]))));
        court.declare(bench.term("{{u0 u0} (v0 (v0 (v0 (v0 d0)))) (v1 (v1 d0)) (v2 (v2 d0))}"));
        int more = court.apply(court.functionNode(1), twice);
        Due.thrown("15 + 3 + 3 steps", NONE, () -> court.typeOf(more));
        Due.thrown("a type that is needed", NONE, () -> court.typeOf(court.apply(more, more)));
    }

    /** "of a universe with a level less than 3, the universe with the next level"; the greater level of two. */
    private static void universes() {
        for (int i = 0; i <= 3; i++) {
            Bench bench = new Bench();
            TelescopeCourt court = bench.court;
            int one = court.universe(i);
            if (i == 3) {
                Due.thrown("the type of the last one", NONE, () -> court.typeOf(one));
                Due.thrown("the level of the last one", NONE, () -> court.level(one));
            } else {
                Due.is("the type of one", court.typeOf(one), 4 + i);
                Due.is("the level of one", court.level(one), i + 1);
            }
            for (int j = 0; j <= 3; j++) {
                int both = court.functions(one, court.universe(j));
                if (i == 3 || j == 3) {
                    Due.thrown("the type of functions over the last one", NONE, () -> court.typeOf(both));
                } else {
                    Due.is("the level of functions", court.level(both), Math.max(i, j) + 1);
                }
            }
        }
        Bench bench = new Bench();
        int highest = bench.term("{u2 u2}");
        Due.is("the highest level", bench.court.level(bench.court.functions(highest, highest)), 3);
    }

    /** "of a variable that is in the context": as many as stand around it, and one more. */
    private static void variables() {
        Bench bench = new Bench();
        TelescopeCourt court = bench.court;
        int universe = court.universe(0);
        for (int depth = 0; depth <= 13; depth++) {
            int last = depth == 0 ? universe : court.variable(depth - 1);
            int first = court.variable(depth);
            int lambdas = universe;
            for (int i = 0; i < depth; i++) {
                last = court.lambda(universe, last);
                first = court.lambda(universe, first);
            }
            int open = first;
            int type = 4;
            for (int i = 0; i < depth; i++) {
                type = functionsNumber(3, i == 0 ? 3 : type);
            }
            Due.is("the outermost one of " + depth, court.typeOf(last), type);
            Due.thrown("one more than " + depth, NONE, () -> court.typeOf(open));
        }
        // A domain does not see the variable that it binds.
        Due.thrown("a domain of functions", NONE, () -> court.typeOf(bench.term("{v0 u0}")));
        Due.thrown("a domain of a lambda", NONE, () -> court.typeOf(bench.term("[v0 u0]")));
        Due.is("a codomain", court.level(bench.term("{u0 v0}")), 1);
        Due.thrown("an argument is not below it", NONE, () -> court.typeOf(bench.term("([u0 u0] v0)")));
    }

    /** Types that grow beyond 80 when they are parts of larger ones. */
    private static void largeTypes() {
        Bench bench = Bench.withNumbers();
        TelescopeCourt court = bench.court;
        int one = bench.term("([u0 {v0 v1 v2 d0}] ([u0 {v0 v1 v2 d0}] {d0 d0 d0 d0}))");
        Due.is("a size of 79 has a level", court.level(one), 0);
        court.declare(one);
        int zero = court.constructorNode(bench.zero);
        int ofOne = court.functionNode(0);
        Due.is("its type", court.typeOf(ofOne), court.normal(one));
        Due.is("it is of this type", court.isOf(ofOne, one), true);
        int below = court.lambda(bench.ofNumbers, ofOne);
        Due.thrown("a type of 81", NONE, () -> court.typeOf(below));
        Due.is("nothing is of it", court.isOf(below, court.functions(bench.ofNumbers, one)), false);
        Due.thrown("a form that is needed is not there", NONE, () -> court.typeOf(court.apply(below, zero)));
        court.declare(bench.term("([u0 {v0 v1 d0}] ([u0 {v0 v1 v2 d0}] {d0 d0 d0 d0 d0 d0}))"));
        int ofTwo = court.functionNode(1);
        int fits = court.lambda(bench.ofNumbers, ofTwo);
        Due.is("a type of 79 with one of 77", court.typeOf(fits), functionsNumber(101, court.typeOf(ofTwo)));
        Due.is("applied", court.typeOf(court.apply(fits, zero)), court.typeOf(ofTwo));
        int beyond = bench.term("([u0 {v0 v1 v2 d0 d0}] ([u0 {v0 v1 v2 d0}] {d0 d0 d0 d0}))");
        Due.is("its level needs no form of it", court.level(beyond), 0);
        Due.thrown("a type of 81 is none to declare", NONE, () -> court.declare(beyond));
    }

    /** A type of an application that is 79 or 81 on the way to its normal form. */
    private static void largeTypesOnTheWay() {
        for (int i = 0; i < 2; i++) {
            Bench bench = Bench.withNumbers();
            TelescopeCourt court = bench.court;
            // (f : u0 -> u0) f A, where A has a size of 35 in its normal form.
            String argument = "([u0 {v0 v1 v2}] ([u0 {v0 v1 v2}] {d0 d0}))";
            court.declare(bench.term("{{u0 u0} (v0 " + argument + ")}"));
            String away = i == 0 ? "{d0 d0 d0}" : "{d0 d0 d0 d0}";
            int put = court.apply(court.functionNode(0), bench.term("[u0 ([u0 {v1 v2}] " + away + ")]"));
            if (i == 0) {
                int form = court.normal(bench.term(argument));
                Due.is("79 on the way", court.typeOf(put), functionsNumber(form, form));
            } else {
                Due.thrown("81 on the way", NONE, () -> court.typeOf(put));
            }
        }
    }

    public static void main(String[] args) {
        theEmptyCourt();
        theLastNode();
        leaves();
        theLargestNode();
        theLastDataType();
        theLastConstructor();
        argumentsOfConstructors();
        constructorsBehindSplits();
        constructorsBehindAcceptedOnes();
        nodesThatAreAsked();
        remainders();
        theLargestForm();
        theLargestOnTheWay();
        theOrderOfSteps();
        theLastStep();
        universes();
        variables();
        largeTypes();
        largeTypesOnTheWay();
        theLastStepOfAType();
        Due.end();
    }
}
