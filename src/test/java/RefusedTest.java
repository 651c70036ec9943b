import java.util.ArrayList;
import java.util.Arrays;
import java.util.List;
import java.util.NoSuchElementException;

/**
 * "A method that throws an exception changes nothing": each refused call is made of a court of its own, and all that
 * later calls show is held against a court of which it was not made.
 */
public final class RefusedTest {
    private static final Class<IndexOutOfBoundsException> INDEX = IndexOutOfBoundsException.class;
    private static final Class<NoSuchElementException> SUCH = NoSuchElementException.class;
    private static final Class<IllegalArgumentException> ARGUMENT = IllegalArgumentException.class;
    private static final Class<IllegalStateException> STATE = IllegalStateException.class;
    private static final Class<UnsupportedOperationException> UNSUPPORTED = UnsupportedOperationException.class;

    private interface Call {
        Object of(TelescopeCourt court);
    }

    private interface Build {
        Bench made();
    }

    private record Refused(String what, Class<? extends RuntimeException> why, Call call) {
    }

    private static Object answer(Call call, TelescopeCourt court) {
        try {
            return call.of(court);
        } catch (RuntimeException e) {
            return e.getClass();
        }
    }

    // What later calls show

    private static void ask(List<Call> calls, int nodes, int goals) {
        for (int i = 0; i < nodes; i++) {
            int node = i;
            calls.add(court -> court.number(node));
            calls.add(court -> court.typeOf(node));
            calls.add(court -> court.run(node));
        }
        for (int i = 0; i < goals; i++) {
            int goal = i;
            calls.add(court -> court.goalState(goal));
            calls.add(court -> court.goalType(goal));
            calls.add(court -> court.contextSize(goal));
            for (int j = 0; j < 12; j++) {
                int place = j;
                calls.add(court -> court.contextType(goal, place));
            }
        }
        for (int i = 0; i < 8; i++) {
            int function = i;
            calls.add(court -> court.openGoals(function));
            calls.add(court -> court.isAccepted(function));
        }
        calls.add(TelescopeCourt::allSteps);
        calls.add(TelescopeCourt::filledShare);
        calls.add(TelescopeCourt::meanSize);
        calls.add(TelescopeCourt::isSound);
        calls.add(court -> court.size(nodes));
        calls.add(court -> court.goalState(goals));
    }

    /** Rows of calls that change the court; in each, one call behind another. */
    private static void act(List<Call> calls) {
        calls.add(court -> court.universe(0));
        calls.add(court -> court.functionNode(0));
        calls.add(TelescopeCourt::addData);
        for (int i = 0; i < 6; i++) {
            int data = i;
            calls.add(court -> court.addConstructor(data, 1, data, 0, 0));
        }
        for (int i = 0; i < 40; i++) {
            int goal = i;
            calls.add(court -> court.auto(goal));
        }
        for (int i = 0; i < 8; i++) {
            int function = i;
            calls.add(court -> court.accept(function));
            calls.add(court -> court.openGoals(function));
        }
        for (int i = 0; i < 40; i++) {
            int goal = i;
            calls.add(court -> court.reopen(goal));
        }
        for (int i = 0; i < 40; i++) {
            int goal = i;
            calls.add(court -> court.split(goal, 0));
        }
        calls.add(TelescopeCourt::filledShare);
        calls.add(TelescopeCourt::meanSize);
        calls.add(TelescopeCourt::isSound);
        calls.add(court -> court.declare(2));
    }

    private static List<List<Object>> shown(Build build, Call first, List<List<Call>> looks) {
        List<List<Object>> all = new ArrayList<>();
        for (List<Call> look : looks) {
            TelescopeCourt court = build.made().court;
            if (first != null) {
                answer(first, court);
            }
            List<Object> row = new ArrayList<>();
            for (Call call : look) {
                row.add(answer(call, court));
            }
            all.add(row);
        }
        return all;
    }

    /** Rows of at most so many calls, as an object is good for 512; those that change the court are a row. */
    private static List<List<Call>> looks(int nodes, int goals) {
        List<Call> asked = new ArrayList<>();
        ask(asked, nodes, goals);
        List<List<Call>> looks = new ArrayList<>();
        for (int i = 0; i < asked.size(); i += 150) {
            looks.add(asked.subList(i, Math.min(i + 150, asked.size())));
        }
        List<Call> acted = new ArrayList<>();
        act(acted);
        looks.add(acted);
        return looks;
    }

    private static void changesNothing(String where, Build build, int nodes, int goals, List<Refused> refused) {
        List<List<Call>> looks = looks(nodes, goals);
        List<List<Object>> want = shown(build, null, looks);
        for (Refused one : refused) {
            TelescopeCourt court = build.made().court;
            Due.is(where + ": " + one.what, answer(one.call, court), one.why);
            Due.is(where + ": " + one.what + ", again", answer(one.call, court), one.why);
            Due.is(where + ": what is shown after " + one.what, shown(build, one.call, looks), want);
        }
    }

    private static Refused no(String what, Class<? extends RuntimeException> why, Call call) {
        return new Refused(what, why, call);
    }

    // A court with goals that are open, split and filled, and functions that are accepted or not

    /**
     * Data types: numbers, one without constructors, trees of three trees. Functions: a copy of numbers, accepted; an
     * addition with one open goal; one that gives types; one over a type of these that is too large to be split once
     * more; one that does not come to an end; one that gives a number for each tree.
     */
    private static Bench some() {
        Bench bench = Bench.withNumbers();
        TelescopeCourt court = bench.court;
        court.addData();
        court.addData();
        court.addConstructor(2, 3, 2, 2, 2);
        bench.term("{d0 d0}");
        bench.declareCopy(0);
        bench.declareOverNumbers(2);
        court.split(3, 0);
        court.fill(4, bench.term("v0"));
        court.declare(bench.term("{d2 d2 d2 d2 u0}"));
        court.declare(bench.term("{d2 (f2 v0 v0 v0 v0) d2}"));
        court.split(7, 0);
        court.split(8, 0);
        bench.declareOverNumbers(1);
        court.fill(10, bench.term("(f4 v0)"));
        court.declare(bench.term("{d2 d1 d0}"));
        court.run(bench.term("(f0 (c1 (c1 c0)))"));
        return bench;
    }

    private static List<Refused> ofNodes(Bench bench) {
        int end = bench.court.universe(0);
        int large = bench.number(14);
        List<Refused> all = new ArrayList<>(Arrays.asList(
                no("universe", ARGUMENT, court -> court.universe(4)),
                no("variable", ARGUMENT, court -> court.variable(16)),
                no("functions", INDEX, court -> court.functions(0, end)),
                no("lambda", INDEX, court -> court.lambda(end, 0)),
                no("apply", INDEX, court -> court.apply(-1, 0)),
                no("dataNode", SUCH, court -> court.dataNode(3)),
                no("constructorNode", SUCH, court -> court.constructorNode(3)),
                no("functionNode", SUCH, court -> court.functionNode(6)),
                no("addConstructor, many", ARGUMENT, court -> court.addConstructor(2, 4, 0, 0, 0)),
                no("addConstructor, data", SUCH, court -> court.addConstructor(3, 1, 0, 0, 0)),
                no("addConstructor, argument", SUCH, court -> court.addConstructor(1, 2, 0, 3, 0)),
                no("addConstructor, accepted", STATE, court -> court.addConstructor(1, 1, 0, 0, 0)),
                no("size", INDEX, court -> court.size(end)),
                no("number", INDEX, court -> court.number(end)),
                no("normal", INDEX, court -> court.normal(end)),
                no("typeOf", INDEX, court -> court.typeOf(end)),
                no("level", INDEX, court -> court.level(end)),
                no("isOf", INDEX, court -> court.isOf(0, end))));
        Due.is("too large to be laid with", bench.court.size(large), 29);
        return all;
    }

    private static List<Refused> ofGoals(int end) {
        return Arrays.asList(
                no("declare, no node", INDEX, court -> court.declare(end)),
                no("declare, no functions", UNSUPPORTED, court -> court.declare(0)),
                no("split, no goal", SUCH, court -> court.split(12, 0)),
                no("split, no place", INDEX, court -> court.split(5, 2)),
                no("split, not open", STATE, court -> court.split(4, 0)),
                no("split, split", STATE, court -> court.split(3, 0)),
                no("split, no data type", UNSUPPORTED, court -> court.split(9, 5)),
                no("split, no normal form", UNSUPPORTED, court -> court.split(9, 0)),
                no("fill, no goal", SUCH, court -> court.fill(12, 0)),
                no("fill, no node", INDEX, court -> court.fill(5, end)),
                no("fill, not open", STATE, court -> court.fill(4, 0)),
                no("fill, another type", UNSUPPORTED, court -> court.fill(5, 0)),
                no("auto, no goal", SUCH, court -> court.auto(12)),
                no("auto, not open", STATE, court -> court.auto(4)),
                no("auto, none", UNSUPPORTED, court -> court.auto(6)),
                no("reopen, no goal", SUCH, court -> court.reopen(12)),
                no("reopen, open", STATE, court -> court.reopen(5)),
                no("reopen, split", STATE, court -> court.reopen(3)),
                no("reopen, accepted", STATE, court -> court.reopen(1)),
                no("goalState", SUCH, court -> court.goalState(12)),
                no("contextSize", SUCH, court -> court.contextSize(12)),
                no("contextType, no goal", SUCH, court -> court.contextType(12, 0)),
                no("contextType, no place", INDEX, court -> court.contextType(5, 2)),
                no("goalType", SUCH, court -> court.goalType(12)),
                no("openGoals", SUCH, court -> court.openGoals(6)),
                no("accept, no function", SUCH, court -> court.accept(6)),
                no("accept, accepted", STATE, court -> court.accept(0)),
                no("accept, open goals", STATE, court -> court.accept(1)),
                no("accept, no end", UNSUPPORTED, court -> court.accept(4)),
                no("isAccepted", SUCH, court -> court.isAccepted(6)));
    }

    /** Nodes that some() has, and more behind them, each with the number of its node. */
    private static Bench someWithTerms() {
        Bench bench = some();
        for (String text : TERMS) {
            bench.term(text);
        }
        return bench;
    }

    private static final String[] TERMS = {
        "v0", "(v0 v0)", "[u0 (v0 v0)]", "([u0 (v0 v0)] [u0 (v0 v0)])", "(f1 c0)", "(f1 v0 v1)", "{u3 d0}",
        "{d0 d0 d0 d0 d0 d0}",
        "(f0 (f0 (f0 (f0 (f0 (f0 (c1 (c1 (c1 (c1 (c1 (c1 (c1 c0)))))))))))))", "(f4 c0)"};

    private static List<Refused> ofTerms() {
        Bench bench = someWithTerms();
        int endless = bench.term("([u0 (v0 v0)] [u0 (v0 v0)])");
        int open = bench.term("v0");
        int five = bench.term("{d0 d0 d0 d0 d0 d0}");
        int high = bench.term("{u3 d0}");
        int large = bench.term("(f0 (f0 (f0 (f0 (f0 (f0 (c1 (c1 (c1 (c1 (c1 (c1 (c1 c0)))))))))))))");
        int calls = bench.term("(f4 c0)");
        int type = bench.ofNumbers;
        return Arrays.asList(
                no("functions, too large", STATE, court -> court.functions(large, large)),
                no("lambda, too large", STATE, court -> court.lambda(large, large)),
                no("apply, too large", STATE, court -> court.apply(large, large)),
                no("normal, no end", UNSUPPORTED, court -> court.normal(endless)),
                no("typeOf, open", UNSUPPORTED, court -> court.typeOf(open)),
                no("typeOf, no end", UNSUPPORTED, court -> court.typeOf(endless)),
                no("level, open", UNSUPPORTED, court -> court.level(open)),
                no("level, too high", UNSUPPORTED, court -> court.level(high)),
                no("declare, five arguments", UNSUPPORTED, court -> court.declare(five)),
                no("declare, no level", UNSUPPORTED, court -> court.declare(high)),
                no("declare, no end", UNSUPPORTED, court -> court.declare(endless)),
                no("fill, another type", UNSUPPORTED, court -> court.fill(5, type)),
                no("fill, a call", UNSUPPORTED, court -> court.fill(5, calls)),
                no("fill, no type", UNSUPPORTED, court -> court.fill(5, endless)),
                no("run, not accepted", UNSUPPORTED, court -> court.run(calls)),
                no("run, a type", UNSUPPORTED, court -> court.run(type)),
                no("run, open", UNSUPPORTED, court -> court.run(open)),
                no("run, many steps", UNSUPPORTED, court -> court.run(large)),
                no("runByClauses, many steps", UNSUPPORTED, court -> court.runByClauses(large)),
                no("steps, many", UNSUPPORTED, court -> court.steps(large)),
                no("valueSize, many steps", UNSUPPORTED, court -> court.valueSize(large)),
                no("runByClauses, a type", UNSUPPORTED, court -> court.runByClauses(type)),
                no("steps, open", UNSUPPORTED, court -> court.steps(open)),
                no("valueSize, not accepted", UNSUPPORTED, court -> court.valueSize(calls)),
                no("run, no node", INDEX, court -> court.run(250)),
                no("runByClauses, no node", INDEX, court -> court.runByClauses(-1)),
                no("steps, no node", INDEX, court -> court.steps(250)),
                no("valueSize, no node", INDEX, court -> court.valueSize(-1)));
    }

    // A court in which there is room for nothing

    private static Bench full() {
        Bench bench = new Bench();
        TelescopeCourt court = bench.court;
        for (int i = 0; i < 6; i++) {
            court.addData();
        }
        for (int i = 0; i < 16; i++) {
            court.addConstructor(i < 2 ? 0 : 1 + i % 5, i == 1 ? 1 : i < 2 ? 0 : i % 4, 0, 0, 0);
        }
        int type = bench.term("{d0 d0}");
        for (int i = 0; i < 8; i++) {
            court.declare(type);
        }
        int goal = 0;
        for (int i = 0; i < 16; i++) {
            court.split(goal, 0);
            goal = 9 + 2 * i;
        }
        bench.layUpTo(250);
        return bench;
    }

    private static List<Refused> ofFull() {
        return Arrays.asList(
                no("universe", STATE, court -> court.universe(0)),
                no("universe, out of range", ARGUMENT, court -> court.universe(-1)),
                no("variable", STATE, court -> court.variable(0)),
                no("functions", STATE, court -> court.functions(0, 1)),
                no("lambda", STATE, court -> court.lambda(0, 1)),
                no("apply", STATE, court -> court.apply(0, 1)),
                no("dataNode", STATE, court -> court.dataNode(5)),
                no("constructorNode", STATE, court -> court.constructorNode(15)),
                no("functionNode", STATE, court -> court.functionNode(7)),
                no("addData", STATE, TelescopeCourt::addData),
                no("addConstructor", STATE, court -> court.addConstructor(5, 0, 0, 0, 0)),
                no("addConstructor, many", ARGUMENT, court -> court.addConstructor(5, 4, 0, 0, 0)),
                no("addConstructor, split", STATE, court -> court.addConstructor(0, 0, 0, 0, 0)),
                no("declare", STATE, court -> court.declare(1)),
                no("declare, no type", UNSUPPORTED, court -> court.declare(0)),
                no("split", STATE, court -> court.split(1, 0)),
                no("split, no place", INDEX, court -> court.split(1, 1)),
                no("auto, none", UNSUPPORTED, court -> court.auto(8)),
                no("fill, another type", UNSUPPORTED, court -> court.fill(1, 0)),
                no("accept", STATE, court -> court.accept(7)));
    }

    private static List<Refused> ofFigures() {
        return Arrays.asList(
                no("filledShare", ArithmeticException.class, TelescopeCourt::filledShare),
                no("meanSize", ArithmeticException.class, TelescopeCourt::meanSize),
                no("run", INDEX, court -> court.run(0)),
                no("declare", INDEX, court -> court.declare(0)),
                no("addConstructor", SUCH, court -> court.addConstructor(0, 0, 0, 0, 0)),
                no("dataNode", SUCH, court -> court.dataNode(0)),
                no("split", SUCH, court -> court.split(0, 0)),
                no("accept", SUCH, court -> court.accept(0)));
    }

    public static void main(String[] args) {
        int nodes = some().court.universe(0);
        List<Refused> refused = ofNodes(some());
        refused.addAll(ofGoals(nodes));
        changesNothing("some", RefusedTest::some, nodes, 12, refused);
        int more = someWithTerms().court.universe(0);
        changesNothing("some with terms", RefusedTest::someWithTerms, more, 12, ofTerms());
        Due.is("the last goal of a full court", full().court.goalState(39), 'o');
        changesNothing("full", RefusedTest::full, 250, 40, ofFull());
        changesNothing("empty", Bench::new, 0, 0, ofFigures());
        Due.end();
    }
}
