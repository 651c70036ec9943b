import java.util.NoSuchElementException;

/** The bounds that the document names for promises 18 to 29, each sentence with its last value and the first beyond. */
public final class GoalBoundsTest {
    private static final Class<IndexOutOfBoundsException> NO_PLACE = IndexOutOfBoundsException.class;
    private static final Class<NoSuchElementException> NO_SUCH = NoSuchElementException.class;
    private static final Class<IllegalStateException> NOT_NOW = IllegalStateException.class;
    private static final Class<UnsupportedOperationException> CANNOT = UnsupportedOperationException.class;
    private static final int[] WILD = {-1, 256, 65536, Integer.MIN_VALUE, Integer.MAX_VALUE};

    /** "1 to 4 domains, one within the codomain of another, ahead of something that is no type of functions". */
    private static void domains() {
        Bench bench = Bench.withNumbers();
        TelescopeCourt court = bench.court;
        StringBuilder domains = new StringBuilder();
        int functions = 0;
        for (int i = 0; i <= 6; i++) {
            int type = bench.term("{" + domains + "d0}");
            int ofUniverse = bench.term("{" + domains + "u2}");
            if (i < 1 || i > 4) {
                Due.thrown("domains: " + i, CANNOT, () -> court.declare(type));
                Due.thrown("domains: " + i, CANNOT, () -> court.declare(ofUniverse));
            } else {
                Due.is("domains: " + i, court.declare(type), functions);
                Due.is("arguments: " + i, court.contextSize(functions), i);
                Due.is("domains: " + i, court.declare(ofUniverse), functions + 1);
                Due.is("the result", court.goalType(functions + 1), 5);
                functions += 2;
            }
            domains.append("d0 ");
        }
    }

    /** Domains that are types of functions are no domains of the whole; those of its result are. */
    private static void domainsOfDomains() {
        Bench bench = Bench.withNumbers();
        TelescopeCourt court = bench.court;
        court.declare(bench.term("{{d0 d0 d0 d0 d0 d0} d0}"));
        Due.is("one argument", court.contextSize(0), 1);
        Due.thrown("three and two", CANNOT, () -> court.declare(bench.term("{d0 d0 d0 ([u0 {d0 v1 v2}] d0)}")));
        court.declare(bench.term("{d0 d0 ([u0 {d0 v1 v2}] d0)}"));
        Due.is("two and two", court.contextSize(1), 4);
    }

    /** "a closed term that has a level, and whose normal form": there is none, or the level is not there. */
    private static void typesToDeclare() {
        Bench bench = Bench.withNumbers();
        TelescopeCourt court = bench.court;
        String[] none = {"v0", "{d0 v1}", "{v0 d0}", "{u3 d0}", "{d0 u3}", "{c0 d0}", "{d0 c0}", "[d0 d0]", "u0",
            "c1", "(c1 c0)", "{d0 (c0 d0)}", "([u0 v0] d0)", "([d0 v0] {d0 d0})"};
        for (String text : none) {
            int node = bench.term(text);
            Due.thrown("declare " + text, CANNOT, () -> court.declare(node));
        }
        Due.thrown("no function came", NO_SUCH, () -> court.openGoals(0));
        Due.thrown("nor a goal", NO_SUCH, () -> court.goalState(0));
        Due.is("the highest level", court.declare(bench.term("{u2 u2}")), 0);
        Due.is("a redex", court.declare(bench.term("([u0 v0] {d0 d0})")), 1);
        Due.is("a free variable that is put away", court.level(bench.term("{d0 ([u0 d0] d0)}")), 0);
        // A function by its number in a type, whether it is accepted or not.
        court.declare(bench.term("{d0 u0}"));
        Due.is("of a function that is not accepted", court.declare(bench.term("{(f2 c0) d0}")), 3);
    }

    /** "At most 8 functions exist, numbered from 0." */
    private static void theLastFunction() {
        Bench bench = Bench.withNumbers();
        TelescopeCourt court = bench.court;
        int type = bench.term("{d0 d0}");
        for (int i = 0; i < 8; i++) {
            int function = i;
            Due.thrown("no such function yet", NO_SUCH, () -> court.functionNode(function));
            Due.thrown("it has no goals", NO_SUCH, () -> court.openGoals(function));
            Due.is("declare", court.declare(type), i);
            Due.is("its number", court.number(court.functionNode(i)), 301 + i);
            Due.is("its goal", court.openGoals(i), 1);
        }
        Due.thrown("a ninth one", NOT_NOW, () -> court.declare(type));
        Due.thrown("a ninth one that cannot be", CANNOT, () -> court.declare(bench.ofNumbers));
        for (int wild : WILD) {
            Due.thrown("of no node", NO_PLACE, () -> court.declare(wild));
        }
        Due.thrown("no ninth goal", NO_SUCH, () -> court.goalState(8));
        Due.thrown("no ninth function", NO_SUCH, () -> court.functionNode(8));
        court.auto(7);
        Due.is("the last one is accepted", court.accept(7), 0);
        Due.is("the last one runs", court.run(bench.term("(f7 (c1 c0))")), court.number(bench.number(1)));
    }

    /** Data types with one constructor, with none, and with two; forty goals are taken, or some less. */
    private static Bench withGoals(int many) {
        Bench bench = new Bench();
        TelescopeCourt court = bench.court;
        for (int i = 0; i < 3; i++) {
            court.addData();
        }
        court.addConstructor(0, 1, 0, 0, 0);
        court.addConstructor(2, 0, 0, 0, 0);
        court.addConstructor(2, 1, 2, 0, 0);
        court.declare(bench.term("{d0 d1 d2 d0}"));
        for (int i = 0; i < many - 1; i++) {
            court.split(i, 0);
        }
        return bench;
    }

    /** "At most 40 goals exist, numbered from 0", made by splits of one, of none and of two constructors. */
    private static void theLastGoal() {
        TelescopeCourt court = withGoals(39).court;
        Due.thrown("two for one place", NOT_NOW, () -> court.split(38, 2));
        Due.is("as it was", court.goalState(38), 'o');
        Due.is("one for one place", court.split(38, 0), 1);
        Due.is("the last goal", court.goalState(39), 'o');
        Due.thrown("no goal behind it", NO_SUCH, () -> court.goalState(40));
        Due.thrown("one for no place", NOT_NOW, () -> court.split(39, 0));
        Due.thrown("two for no place", NOT_NOW, () -> court.split(39, 2));
        Due.thrown("there is no variable", NO_PLACE, () -> court.split(39, 3));
        Due.thrown("there is no goal", NO_SUCH, () -> court.split(40, 0));
        Due.is("as it was", court.goalState(39), 'o');
        Due.is("none for no place", court.split(39, 1), 0);
        Due.is("it is split", court.goalState(39), 's');
        Due.thrown("none twice", NOT_NOW, () -> court.split(39, 1));
        TelescopeCourt two = withGoals(38).court;
        Due.is("two for two places", two.split(37, 2), 2);
        Due.is("the last goal", two.contextSize(39), 3);
        Due.thrown("no goal behind it", NO_SUCH, () -> two.contextSize(40));
    }

    /** "Throws IllegalStateException if there are 8 functions, or 40 goals". */
    private static void declaringTheLastGoal() {
        Bench bench = withGoals(39);
        TelescopeCourt court = bench.court;
        int type = bench.term("{d0 d0}");
        Due.is("the fortieth goal", court.declare(type), 1);
        Due.is("is its goal", court.goalType(39), 101);
        Due.thrown("there are forty", NOT_NOW, () -> court.declare(type));
        Due.thrown("there are forty, and it cannot be", CANNOT, () -> court.declare(bench.term("d0")));
        Due.thrown("no function came", NO_SUCH, () -> court.openGoals(2));
        Due.is("it is the goal of the second", court.openGoals(1), 1);
        Due.is("the first has one open goal", court.openGoals(0), 1);
    }

    private static Bench withContext(int many) {
        Bench bench = new Bench();
        TelescopeCourt court = bench.court;
        for (int i = 0; i < 4; i++) {
            court.addData();
        }
        court.addConstructor(0, 0, 0, 0, 0);
        court.addConstructor(1, 1, 0, 0, 0);
        court.addConstructor(2, 2, 2, 2, 0);
        court.addConstructor(3, 3, 2, 1, 0);
        court.declare(bench.term("{d0 d1 d2 d3 d3}"));
        for (int i = 4; i < many; i++) {
            court.split(i - 4, 2);
        }
        return bench;
    }

    /** "more than 12 variables in a context": splits by constructors with 0 to 3 arguments, at 10 to 12 variables. */
    private static void theLargestContext() {
        for (int many = 10; many <= 12; many++) {
            for (int data = 0; data < 4; data++) {
                TelescopeCourt court = withContext(many).court;
                int goal = many - 4;
                int place = data < 3 ? data : many - 1;
                Due.is("the context", court.contextSize(goal), many);
                int after = many - 1 + data;
                if (after > 12) {
                    Due.thrown(many + " and " + data, NOT_NOW, () -> court.split(goal, place));
                    Due.is("as it was", court.goalState(goal), 'o');
                    Due.thrown("no goal was made", NO_SUCH, () -> court.goalState(goal + 1));
                    Due.thrown("no such place", NO_PLACE, () -> court.split(goal, court.contextSize(goal)));
                } else {
                    Due.is(many + " and " + data, court.split(goal, place), 1);
                    Due.is("the context then", court.contextSize(goal + 1), after);
                    Due.thrown("behind it", NO_PLACE, () -> court.contextType(goal + 1, after));
                    Due.is("the last type", court.contextType(goal + 1, after - 1), data < 3 ? 104 : 101);
                }
            }
        }
    }

    /** The exceptions of a split, where two of them apply. */
    private static void exceptionsOfSplits() {
        Bench bench = withContext(12);
        TelescopeCourt court = bench.court;
        for (int wild : WILD) {
            Due.thrown("no goal, no place", NO_SUCH, () -> court.split(wild, wild));
            Due.thrown("no goal", NO_SUCH, () -> court.split(wild, 0));
            Due.thrown("no place, open", NO_PLACE, () -> court.split(8, wild));
            Due.thrown("no place, split", NO_PLACE, () -> court.split(0, wild));
        }
        Due.thrown("split", NOT_NOW, () -> court.split(0, 0));
        court.fill(8, bench.term("v0"));
        Due.thrown("filled", NOT_NOW, () -> court.split(8, 0));
        Due.thrown("filled, too large", NOT_NOW, () -> court.split(8, 2));
        Due.thrown("filled, no place", NO_PLACE, () -> court.split(8, 12));
        court.declare(bench.term("{u0 d0}"));
        Due.thrown("no data type", CANNOT, () -> court.split(9, 0));
        court.fill(9, bench.term("c0"));
        Due.thrown("filled, no data type", NOT_NOW, () -> court.split(9, 0));
    }

    /** A variable of no data type makes no goals: it is never too many goals, nor too large a context. */
    private static void splitsByNoDataType() {
        for (int level = 0; level < 3; level++) {
            Bench bench = new Bench();
            TelescopeCourt court = bench.court;
            for (int i = 0; i < 3; i++) {
                court.addData();
                court.addConstructor(i, 3, i, i, i);
                court.addConstructor(i, 0, 0, 0, 0);
            }
            court.declare(bench.term("{d0 u" + level + " d1 d2 d0}"));
            for (int i = 0; i < 4; i++) {
                court.split(i == 0 ? 0 : 2 * i - 1, 0);
            }
            int place = 1 + 2 * 4;
            Due.is("the universe", court.contextType(7, place), 3 + level);
            Due.is("a context of twelve", court.contextSize(7), 12);
            Due.thrown("a universe among twelve", CANNOT, () -> court.split(7, place));
            Due.thrown("a tree among twelve", NOT_NOW, () -> court.split(7, 0));
        }
        for (int level = 0; level < 3; level++) {
            Bench bench = new Bench();
            TelescopeCourt court = bench.court;
            for (int i = 0; i < 3; i++) {
                court.addData();
                court.addConstructor(i, 1, i, 0, 0);
            }
            court.declare(bench.term("{d0 u" + level + " d0}"));
            for (int i = 0; i < 39; i++) {
                court.split(i, 0);
            }
            Due.thrown("a universe behind forty goals", CANNOT, () -> court.split(39, 1));
            Due.thrown("a tree behind forty goals", NOT_NOW, () -> court.split(39, 0));
        }
    }

    /** A function that gives types, f0, and one whose type is given, over trees that are split by three trees. */
    private static Bench withLargeTypes(String type) {
        Bench bench = Bench.withNumbers();
        TelescopeCourt court = bench.court;
        int data = court.addData();
        court.addConstructor(data, 3, data, data, data);
        court.declare(bench.term("{d1 d1 d1 " + (type.contains("c1") ? "d0" : "d1") + " u0}"));
        court.declare(bench.term(type));
        return bench;
    }

    // A size of 9, of 33, 57 and 81, where each split puts 24 more.
    private static final String BY_24 = "(f0 v0 v0 v0 v0)";
    // A size of 25, of 43, 61 and 79, where each split puts 18 more.
    private static final String BY_18 = "(f0 v0 v0 v0 (c1 (c1 (c1 (c1 (c1 (c1 (c1 (c1 c0)))))))))";

    private static void thirdSplit(String what, String type, boolean fits) {
        TelescopeCourt court = withLargeTypes(type).court;
        Due.is(what + ", the first split", court.split(1, 0), 1);
        Due.is(what + ", the second split", court.split(2, 0), 1);
        int goal = 3;
        if (fits) {
            Due.is(what + " of 79", court.split(3, 0), 1);
            goal = 4;
        }
        int last = goal;
        Due.thrown(what + " of more than 80", CANNOT, () -> court.split(last, 0));
        Due.thrown(what + ", by another variable", CANNOT, () -> court.split(last, 2));
        Due.is(what + ", as it was", court.goalState(last), 'o');
        Due.thrown(what + ", no goal was made", NO_SUCH, () -> court.contextSize(last + 1));
    }

    /** "or a normal form is not there": of a type behind, or of the goal's type, of 79 and of 81. */
    private static void theLargestTypes() {
        thirdSplit("a type behind", "{d1 " + BY_24 + " d1}", false);
        thirdSplit("a type behind", "{d1 " + BY_18 + " d1}", true);
        thirdSplit("the goal's type", "{d1 " + BY_24 + "}", false);
        thirdSplit("the goal's type", "{d1 " + BY_18 + "}", true);
    }

    /** A type in front of the variable is not looked at, however large it is. */
    private static void typesInFront() {
        Bench bench = new Bench();
        TelescopeCourt court = bench.court;
        int data = court.addData();
        court.addConstructor(data, 1, data, 0, 0);
        court.declare(bench.term("{([u0 {v0 v1 v2 v3}] ([u0 {v0 v1 v2}] {d0 d0 d0})) d0 d0}"));
        int front = court.contextType(0, 0);
        Due.is("split", court.split(0, 1), 1);
        Due.is("as it was", court.contextType(1, 0), front);
        Due.is("a variable again", court.contextType(1, 1), 101);
    }

    /** IllegalStateException comes ahead of a normal form that is not there. */
    private static void fullAndTooLarge() {
        TelescopeCourt court = withLargeTypes("{d1 " + BY_24 + " d1 d1}").court;
        court.split(1, 0);
        court.split(2, 0);
        Due.thrown("no form", CANNOT, () -> court.split(3, 0));
        court.split(3, 6);
        court.split(4, 8);
        Due.is("a context of eleven", court.contextSize(5), 11);
        Due.thrown("thirteen, and no form", NOT_NOW, () -> court.split(5, 0));
        Due.thrown("thirteen", NOT_NOW, () -> court.split(5, 10));
        Due.thrown("no data type", CANNOT, () -> court.split(5, 5));
        Bench bench = withLargeTypes("{d1 " + BY_24 + " d1}");
        bench.court.split(1, 0);
        bench.court.split(2, 0);
        bench.court.addConstructor(bench.court.addData(), 1, 2, 0, 0);
        bench.court.declare(bench.term("{d2 d0}"));
        for (int i = 4; i < 39; i++) {
            bench.court.split(i, 0);
        }
        Due.is("the last goal", bench.court.goalState(39), 'o');
        Due.thrown("forty-one, and no form", NOT_NOW, () -> bench.court.split(3, 0));
    }

    /** A context without variables. */
    private static void theEmptyContext() {
        Bench bench = Bench.withNumbers();
        TelescopeCourt court = bench.court;
        bench.declareOverNumbers(1);
        court.split(0, 0);
        Due.is("no variables", court.contextSize(1), 0);
        for (int place : new int[] {0, 1, -1, Integer.MAX_VALUE}) {
            Due.thrown("contextType", NO_PLACE, () -> court.contextType(1, place));
            Due.thrown("split", NO_PLACE, () -> court.split(1, place));
        }
        Due.thrown("no variable is found", CANNOT, () -> court.auto(1));
        Due.thrown("no variable is there", CANNOT, () -> court.fill(1, bench.term("v0")));
        Due.is("a closed term", court.fill(1, bench.term("c0")), 1);
        Due.is("one variable", court.contextSize(2), 1);
        Due.thrown("behind one", NO_PLACE, () -> court.contextType(2, 1));
        Due.thrown("an index behind one", CANNOT, () -> court.fill(2, bench.term("v1")));
        Due.is("the last index", court.fill(2, bench.term("v0")), 0);
    }

    /** The highest index of a context of twelve, and one beyond it. */
    private static void variablesOfContexts() {
        Bench bench = withContext(12);
        TelescopeCourt court = bench.court;
        Due.is("twelve", court.contextSize(8), 12);
        Due.thrown("an index of 12", CANNOT, () -> court.fill(8, bench.term("([d0 v1] v12)")));
        Due.thrown("the last one has another type", CANNOT, () -> court.fill(8, bench.term("v11")));
        Due.is("the last one below a lambda", court.fill(8, bench.term("([d0 v1] v11)")), 0);
        court.reopen(8);
        Due.thrown("beyond it below a lambda", CANNOT, () -> court.fill(8, bench.term("([d0 ([d0 v2] v13)] v11)")));
        Due.is("the last one in it", court.fill(8, bench.term("([d0 ([d0 v2] v12)] v11)")), 0);
        court.reopen(8);
        Due.is("found", court.auto(8), 11);
    }

    /** The exceptions of a filling, where two of them apply. */
    private static void exceptionsOfFillings() {
        Bench bench = Bench.withNumbers();
        TelescopeCourt court = bench.court;
        bench.declareOverNumbers(1);
        bench.declareOverNumbers(1);
        int fits = bench.term("v0");
        int type = bench.ofNumbers;
        int calls = bench.term("(f1 v0)");
        int last = court.universe(0);
        for (int wild : WILD) {
            Due.thrown("no goal, no node", NO_SUCH, () -> court.fill(wild, wild));
            Due.thrown("no goal", NO_SUCH, () -> court.fill(wild, fits));
            Due.thrown("no node", NO_PLACE, () -> court.fill(0, wild));
        }
        Due.thrown("a node behind the last one", NO_PLACE, () -> court.fill(0, last + 1));
        Due.thrown("a goal behind the last one", NO_SUCH, () -> court.fill(2, last + 1));
        Due.thrown("another type", CANNOT, () -> court.fill(0, type));
        Due.thrown("a call that cannot be", CANNOT, () -> court.fill(0, calls));
        Due.is("its own call", court.fill(1, calls), 0);
        Due.is("filled", court.fill(0, fits), 0);
        Due.thrown("filled, another type", NOT_NOW, () -> court.fill(0, type));
        Due.thrown("filled, a call", NOT_NOW, () -> court.fill(0, calls));
        Due.thrown("filled, no node", NO_PLACE, () -> court.fill(0, last + 1));
        court.reopen(0);
        court.split(0, 0);
        Due.thrown("split, another type", NOT_NOW, () -> court.fill(0, type));
        Due.thrown("split, no node", NO_PLACE, () -> court.fill(0, -1));
        Due.is("the open ones go down", court.fill(2, bench.term("c0")), 1);
    }

    /** "if the normal form of the type of this term": the term itself needs none. */
    private static void fillingWithoutForms() {
        Bench bench = Bench.withNumbers();
        TelescopeCourt court = bench.court;
        int more = bench.term("([u0 {v0 v1}] ([u0 {v0 v1 v2}] ([u0 {v0 v1}] ([u0 v0] d0))))");
        Due.thrown("twenty-one steps", CANNOT, () -> court.normal(more));
        court.declare(bench.term("{u0 u0}"));
        Due.is("it has its type", court.fill(0, more), 0);
        Due.is("the size of it", court.reopen(0), court.size(more));
        Due.thrown("no type with this one", CANNOT, () -> court.declare(court.functions(more, bench.ofNumbers)));
    }

    /** "the innermost variable of its context whose type is that of the goal": the first, the last, and none. */
    private static void findingAtTheEnds() {
        String[] types = {"{d0 u0 u0 u0 d0}", "{u0 u0 u0 d0 d0}", "{d0 d0 d0 d0 d0}", "{u0 d0 u0 u0 d0}"};
        int[] places = {0, 3, 3, 1};
        for (int i = 0; i < types.length; i++) {
            Bench bench = Bench.withNumbers();
            bench.court.declare(bench.term(types[i]));
            Due.is("found in " + types[i], bench.court.auto(0), places[i]);
            Due.is("its size", bench.court.reopen(0), 1);
        }
        Bench bench = Bench.withNumbers();
        TelescopeCourt court = bench.court;
        court.declare(bench.term("{u0 u0 u0 u0 d0}"));
        Due.thrown("none", CANNOT, () -> court.auto(0));
        court.declare(bench.term("{u1 v0 v1 u0}"));
        Due.thrown("types that are others", CANNOT, () -> court.auto(1));
        court.declare(bench.term("{u1 v0 v1 v2}"));
        Due.is("the type of the inner one, moved", court.auto(2), 2);
        Due.thrown("filled, though it is found", NOT_NOW, () -> court.auto(2));
        for (int wild : WILD) {
            Due.thrown("no goal", NO_SUCH, () -> court.auto(wild));
        }
        Due.thrown("a goal behind the last one", NO_SUCH, () -> court.auto(3));
    }

    /** "if it is not filled, or its function is accepted". */
    private static void reopening() {
        Bench bench = Bench.withNumbers();
        TelescopeCourt court = bench.court;
        bench.declareOverNumbers(1);
        Due.thrown("open", NOT_NOW, () -> court.reopen(0));
        Due.thrown("behind the last one", NO_SUCH, () -> court.reopen(1));
        for (int wild : WILD) {
            Due.thrown("no goal", NO_SUCH, () -> court.reopen(wild));
        }
        court.fill(0, bench.number(14));
        Due.is("the largest right side", court.reopen(0), 29);
        Due.thrown("twice", NOT_NOW, () -> court.reopen(0));
        court.auto(0);
        Due.is("the smallest right side", court.reopen(0), 1);
        court.split(0, 0);
        Due.thrown("split", NOT_NOW, () -> court.reopen(0));
        court.fill(1, bench.number(0));
        court.fill(2, bench.number(0));
        court.accept(0);
        for (int i = 0; i < 3; i++) {
            int goal = i;
            Due.thrown("accepted", NOT_NOW, () -> court.reopen(goal));
        }
        bench.declareOverNumbers(1);
        court.auto(3);
        Due.is("another function is not accepted", court.reopen(3), 1);
    }

    /** Calls that ask a goal or a function, of the first one, the last one and those beyond. */
    private static void whatIsAsked() {
        Bench bench = withGoals(40);
        TelescopeCourt court = bench.court;
        for (int there : new int[] {0, 39}) {
            Due.is("goalState", court.goalState(there), there == 0 ? 's' : 'o');
            Due.is("contextSize", court.contextSize(there), 3);
            Due.is("the first type", court.contextType(there, 0), 101);
            Due.is("the last type", court.contextType(there, 2), 103);
            Due.is("goalType", court.goalType(there), 101);
            for (int place : new int[] {3, -1, 12, Integer.MIN_VALUE, Integer.MAX_VALUE}) {
                Due.thrown("contextType, no place", NO_PLACE, () -> court.contextType(there, place));
            }
        }
        for (int beyond : new int[] {-1, 40, 41, 65536, Integer.MIN_VALUE, Integer.MAX_VALUE}) {
            Due.thrown("goalState", NO_SUCH, () -> court.goalState(beyond));
            Due.thrown("contextSize", NO_SUCH, () -> court.contextSize(beyond));
            Due.thrown("contextType", NO_SUCH, () -> court.contextType(beyond, 0));
            Due.thrown("contextType, no place", NO_SUCH, () -> court.contextType(beyond, beyond));
            Due.thrown("goalType", NO_SUCH, () -> court.goalType(beyond));
            Due.thrown("reopen", NO_SUCH, () -> court.reopen(beyond));
        }
        for (int beyond : new int[] {-1, 1, 8, 32, 33, Integer.MIN_VALUE, Integer.MAX_VALUE}) {
            Due.thrown("openGoals", NO_SUCH, () -> court.openGoals(beyond));
            Due.thrown("accept", NO_SUCH, () -> court.accept(beyond));
            Due.thrown("isAccepted", NO_SUCH, () -> court.isAccepted(beyond));
        }
        Due.is("openGoals", court.openGoals(0), 1);
    }

    /** "A function without open goals is accepted if it comes to an end": with no goal that is filled, too. */
    private static void acceptingWithoutCalls() {
        Bench bench = Bench.withNumbers();
        TelescopeCourt court = bench.court;
        int empty = court.addData();
        court.declare(court.functions(court.dataNode(empty), bench.ofNumbers));
        Due.thrown("an open goal", NOT_NOW, () -> court.accept(0));
        court.split(0, 0);
        Due.is("no goal left", court.openGoals(0), 0);
        Due.is("it is not accepted by itself", court.isAccepted(0), false);
        Due.is("no graphs", court.accept(0), 0);
        Due.is("it is now", court.isAccepted(0), true);
        Due.thrown("twice", NOT_NOW, () -> court.accept(0));
        bench.declareOverNumbers(1);
        court.fill(1, bench.term("(f1 v0)"));
        Due.thrown("one that does not end", CANNOT, () -> court.accept(1));
        Due.thrown("it stays so", CANNOT, () -> court.accept(1));
        Due.is("and is not accepted", court.isAccepted(1), false);
        court.reopen(1);
        Due.thrown("open again", NOT_NOW, () -> court.accept(1));
        court.auto(1);
        Due.is("it ends now", court.accept(1), 0);
    }

    /** The last function has the highest bit of all; each of them is accepted by itself. */
    private static void acceptingTheLastFunction() {
        Bench bench = Bench.withNumbers();
        TelescopeCourt court = bench.court;
        for (int i = 0; i < 8; i++) {
            bench.declareOverNumbers(1);
        }
        int callsLast = bench.term("(f7 v0)");
        int callsFirst = bench.term("(f0 v0)");
        Due.thrown("the last one is not accepted", CANNOT, () -> court.fill(0, callsLast));
        court.auto(7);
        Due.is("the last one", court.accept(7), 0);
        Due.is("it can be called", court.fill(0, callsLast), 0);
        for (int i = 0; i < 8; i++) {
            Due.is("accepted: " + i, court.isAccepted(i), i == 7);
        }
        Due.thrown("the first one is not accepted", CANNOT, () -> court.fill(6, callsFirst));
        court.accept(0);
        Due.is("now it is", court.fill(6, callsFirst), 0);
        Due.is("the first one runs", court.steps(bench.term("(f0 c0)")), 2);
    }

    public static void main(String[] args) {
        domains();
        domainsOfDomains();
        typesToDeclare();
        theLastFunction();
        theLastGoal();
        declaringTheLastGoal();
        theLargestContext();
        exceptionsOfSplits();
        splitsByNoDataType();
        theLargestTypes();
        typesInFront();
        fullAndTooLarge();
        theEmptyContext();
        variablesOfContexts();
        exceptionsOfFillings();
        fillingWithoutForms();
        findingAtTheEnds();
        reopening();
        whatIsAsked();
        acceptingWithoutCalls();
        acceptingTheLastFunction();
        Due.end();
    }
}
