import java.lang.reflect.InvocationTargetException;
import java.lang.reflect.Method;
import java.util.ArrayList;
import java.util.HashMap;
import java.util.List;
import java.util.Map;
import java.util.Random;
import java.util.TreeMap;

/**
 * Runs of 512 calls, made up by a fixed seed each, of the class and of the model; each answer must be the same.
 * Terms are made up by the type that is asked for, so that goals are filled, functions accepted and terms run.
 */
public final class RandomRunsTest {
    private static final int CALLS = 512;
    private static final Map<String, Method> OF_COURT = methods(TelescopeCourt.class);
    private static final Map<String, Method> OF_MODEL = methods(Model.class);
    private static final Map<String, Integer> SEEN = new TreeMap<>();

    private static Map<String, Method> methods(Class<?> type) {
        Map<String, Method> found = new HashMap<>();
        for (Method method : type.getDeclaredMethods()) {
            if (java.lang.reflect.Modifier.isPublic(method.getModifiers())) {
                found.put(method.getName(), method);
            }
        }
        return found;
    }

    /** The calls are used up. */
    private static final class Over extends RuntimeException {
        private static final long serialVersionUID = 1L;
    }

    private static Model.Term leaf(Model.Kind kind, int parameter) {
        return Model.leaf(kind, parameter);
    }

    private final TelescopeCourt court = new TelescopeCourt();
    private final Model model = new Model();
    private final Random random;
    private final Map<Model.Term, Integer> laid = new HashMap<>();
    private final List<String> told = new ArrayList<>();
    private int wrong;

    private RandomRunsTest(long seed) {
        random = new Random(seed);
    }

    private static Object answer(Method method, Object target, Object[] arguments) {
        try {
            return method.invoke(target, arguments);
        } catch (InvocationTargetException thrown) {
            Throwable cause = thrown.getCause();
            if (cause instanceof Error) {
                throw (Error) cause;
            }
            return "throws." + cause.getClass().getSimpleName();
        } catch (IllegalAccessException e) {
            throw new AssertionError(e);
        }
    }

    /** The number that was answered, or -1 if the call threw or answers no int. */
    private int call(String name, int... numbers) {
        if (told.size() == CALLS) {
            throw new Over();
        }
        Object[] arguments = new Object[numbers.length];
        StringBuilder text = new StringBuilder(name).append('(');
        for (int i = 0; i < numbers.length; i++) {
            arguments[i] = numbers[i];
            text.append(i == 0 ? "" : ", ").append(numbers[i]);
        }
        Object due = answer(OF_MODEL.get(name), model, arguments);
        Object got = answer(OF_COURT.get(name), court, arguments);
        text.append(") -> ").append(got);
        told.add(text.toString());
        String kind = name + (due instanceof String ? " " + due : " answers");
        SEEN.merge(kind, 1, Integer::sum);
        if (name.equals("accept") && due instanceof Integer) {
            SEEN.merge("accept finds graphs: " + Integer.highestOneBit((Integer) due), 1, Integer::sum);
        }
        if (name.equals("accept") && due.equals("throws.UnsupportedOperationException")) {
            SEEN.merge("accept throws with graphs: " + Integer.highestOneBit(model.lastGraphs), 1, Integer::sum);
        }
        if (name.equals("run")) {
            SEEN.merge("run comes to: " + model.lastEnd, 1, Integer::sum);
        }
        if (!due.equals(got)) {
            wrong++;
            System.out.println(text + ", due is " + due);
        }
        return due instanceof Integer ? (Integer) due : -1;
    }

    private int below(int end) {
        return end <= 0 ? 0 : random.nextInt(end);
    }

    private boolean oneIn(int many) {
        return random.nextInt(many) == 0;
    }

    /** Mostly one that is there. */
    private int someOf(int many) {
        return oneIn(30) ? many : oneIn(60) ? -1 : below(many);
    }

    private int node() {
        return someOf(model.nodes.size());
    }

    private int lay(Model.Term t) {
        Integer known = laid.get(t);
        if (known != null) {
            return known;
        }
        int node;
        switch (t.kind()) {
            case UNIVERSE: node = call("universe", t.parameter()); break;
            case VARIABLE: node = call("variable", t.parameter()); break;
            case DATA: node = call("dataNode", t.parameter()); break;
            case CONSTRUCTOR: node = call("constructorNode", t.parameter()); break;
            case FUNCTION: node = call("functionNode", t.parameter()); break;
            case FUNCTIONS: node = call("functions", lay(t.first()), lay(t.second())); break;
            case LAMBDA: node = call("lambda", lay(t.first()), lay(t.second())); break;
            default: node = call("apply", lay(t.first()), lay(t.second()));
        }
        if (node >= 0) {
            laid.put(t, node);
        }
        return node;
    }

    // Terms that are made up

    private Model.Term data() {
        return leaf(Model.Kind.DATA, below(model.data));
    }

    /** A type with a level in the context. */
    private Model.Term type(List<Model.Term> context, int fuel) {
        List<Model.Term> found = new ArrayList<>();
        for (int i = 0; i < context.size(); i++) {
            Model.Term of = model.type(context, leaf(Model.Kind.VARIABLE, i));
            if (of.kind() == Model.Kind.UNIVERSE) {
                found.add(leaf(Model.Kind.VARIABLE, i));
            }
        }
        int choice = below(12);
        if (!found.isEmpty() && choice < 5) {
            return found.get(below(found.size()));
        }
        if (choice < 8 || fuel <= 0) {
            return data();
        }
        if (choice == 8) {
            return leaf(Model.Kind.UNIVERSE, below(oneIn(4) ? 4 : 2));
        }
        if (choice == 9) {
            Model.Term domain = type(context, fuel - 1);
            return Model.pair(Model.Kind.FUNCTIONS, domain, type(with(context, domain), fuel - 1));
        }
        Model.Term made = term(context, leaf(Model.Kind.UNIVERSE, 0), fuel - 1, -1);
        return made == null ? data() : made;
    }

    private static List<Model.Term> with(List<Model.Term> context, Model.Term more) {
        List<Model.Term> all = new ArrayList<>(context);
        all.add(more);
        return all;
    }

    /** A term of a type that is a normal form, or null; calls accepted functions and one more. */
    private Model.Term term(List<Model.Term> context, Model.Term type, int fuel, int own) {
        for (int attempt = 0; attempt < 4; attempt++) {
            Model.Term made = attempt(context, type, fuel, own);
            if (made != null) {
                return made;
            }
        }
        return null;
    }

    private Model.Term attempt(List<Model.Term> context, Model.Term type, int fuel, int own) {
        int choice = below(10);
        if (choice < 3 || fuel <= 0) {
            return variable(context, type);
        }
        if (choice < 6 && type.kind() == Model.Kind.DATA) {
            return constructor(context, type, fuel, own);
        }
        if (choice < 6 && type.kind() == Model.Kind.UNIVERSE && type.parameter() == 0) {
            return oneIn(3) ? type(context, fuel - 1) : data();
        }
        if (choice < 6 && type.kind() == Model.Kind.FUNCTIONS) {
            Model.Term body = term(with(context, type.first()), type.second(), fuel - 1, own);
            return body == null ? null : Model.pair(Model.Kind.LAMBDA, type.first(), body);
        }
        if (choice == 6) {
            Model.Term of = type(context, 0);
            Model.Term value = term(context, of, fuel - 2, own);
            Model.Term body = term(with(context, of), Model.shift(type, 1, 0), fuel - 2, own);
            return value == null || body == null ? null
                    : Model.pair(Model.Kind.APPLICATION, Model.pair(Model.Kind.LAMBDA, of, body), value);
        }
        return applied(context, type, fuel, own);
    }

    private Model.Term variable(List<Model.Term> context, Model.Term type) {
        List<Model.Term> found = new ArrayList<>();
        for (int i = 0; i < context.size(); i++) {
            if (type.equals(model.type(context, leaf(Model.Kind.VARIABLE, i)))) {
                found.add(leaf(Model.Kind.VARIABLE, i));
            }
        }
        return found.isEmpty() ? null : found.get(below(found.size()));
    }

    private Model.Term constructor(List<Model.Term> context, Model.Term type, int fuel, int own) {
        List<Integer> found = new ArrayList<>();
        for (int i = 0; i < model.constructors.size(); i++) {
            Model.Constructor one = model.constructors.get(i);
            if (one.data() == type.parameter() && (fuel > 1 || one.parts().isEmpty())) {
                found.add(i);
            }
        }
        if (found.isEmpty()) {
            return null;
        }
        int chosen = found.get(below(found.size()));
        Model.Term made = leaf(Model.Kind.CONSTRUCTOR, chosen);
        for (int part : model.constructors.get(chosen).parts()) {
            Model.Term argument = term(context, leaf(Model.Kind.DATA, part), fuel - 1, own);
            if (argument == null) {
                return null;
            }
            made = Model.pair(Model.Kind.APPLICATION, made, argument);
        }
        return made;
    }

    /** A function or a variable of the context, applied to arguments until the type is there. */
    private Model.Term applied(List<Model.Term> context, Model.Term type, int fuel, int own) {
        Model.Term made;
        if (!context.isEmpty() && oneIn(4)) {
            made = leaf(Model.Kind.VARIABLE, below(context.size()));
        } else {
            int function = own >= 0 && !oneIn(4) ? own : below(model.functions.size());
            if (function >= model.functions.size()) {
                return null;
            }
            if (function != own && !model.functions.get(function).accepted && !oneIn(10)) {
                return null;
            }
            made = leaf(Model.Kind.FUNCTION, function);
        }
        for (int i = 0; i < 6; i++) {
            Model.Term of = model.type(context, made);
            of = of == null ? null : Model.form(of);
            if (type.equals(of)) {
                return made;
            }
            if (of == null || of.kind() != Model.Kind.FUNCTIONS) {
                return null;
            }
            Model.Term argument = oneIn(2) ? variable(context, of.first()) : null;
            argument = argument == null ? term(context, of.first(), fuel - 1, own) : argument;
            if (argument == null) {
                return null;
            }
            made = Model.pair(Model.Kind.APPLICATION, made, argument);
        }
        return null;
    }

    // Calls that are made up

    private void begin() {
        int many = 1 + below(3);
        for (int i = 0; i < many; i++) {
            call("addData");
        }
        if (!oneIn(5)) {
            call("addConstructor", 0, 0, 0, 0, 0);
            call("addConstructor", 0, 1, 0, 0, 0);
        }
        int more = below(5);
        for (int i = 0; i < more; i++) {
            addConstructor();
        }
    }

    private void addConstructor() {
        call("addConstructor", someOf(model.data), oneIn(20) ? below(6) - 1 : below(4), someOf(model.data),
                someOf(model.data), someOf(model.data));
    }

    private void layAny() {
        switch (below(8)) {
            case 0: call("universe", oneIn(5) ? below(7) - 1 : below(4)); break;
            case 1: call("variable", oneIn(8) ? below(20) - 1 : below(4)); break;
            case 2: call("dataNode", someOf(model.data)); break;
            case 3: call("constructorNode", someOf(model.constructors.size())); break;
            case 4: call("functionNode", someOf(model.functions.size())); break;
            case 5: call("functions", node(), node()); break;
            case 6: call("lambda", node(), node()); break;
            default: call("apply", node(), node());
        }
    }

    private void layTyped() {
        Model.Term type = type(List.of(), 3);
        Model.Term form = Model.form(type);
        Model.Term made = form == null ? null : term(List.of(), form, 5, -1);
        int of = lay(type);
        int node = made == null ? -1 : lay(made);
        call("level", of);
        call("isOf", node, of);
        call("typeOf", node);
        call("normal", node);
    }

    private void declare() {
        int many = oneIn(10) ? below(7) : 1 + below(3);
        List<Model.Term> domains = new ArrayList<>();
        for (int i = 0; i < many; i++) {
            domains.add(oneIn(6) ? leaf(Model.Kind.UNIVERSE, 0) : oneIn(2) ? data() : type(domains, 2));
        }
        Model.Term type = oneIn(6) ? leaf(Model.Kind.UNIVERSE, 0) : type(domains, 2);
        for (int i = many - 1; i >= 0; i--) {
            type = Model.pair(Model.Kind.FUNCTIONS, domains.get(i), type);
        }
        call("declare", oneIn(20) ? node() : lay(type));
    }

    private int goal() {
        List<Integer> open = new ArrayList<>();
        for (int i = 0; i < model.goals.size(); i++) {
            if (model.goals.get(i).state == 'o') {
                open.add(i);
            }
        }
        return open.isEmpty() || oneIn(15) ? someOf(model.goals.size()) : open.get(below(open.size()));
    }

    private void split() {
        int goal = goal();
        boolean isThere = goal >= 0 && goal < model.goals.size();
        int places = isThere ? model.goals.get(goal).context.size() : 2;
        call("split", goal, someOf(places));
        if (isThere && model.goals.get(goal).state == 's' && !model.goals.isEmpty()) {
            look(model.goals.size() - 1);
        }
    }

    private void fill() {
        int goal = goal();
        boolean isThere = goal >= 0 && goal < model.goals.size();
        if (!isThere || oneIn(12)) {
            call("fill", goal, node());
            return;
        }
        Model.Goal asked = model.goals.get(goal);
        Model.Term made = term(asked.context, asked.type, 1 + below(5), asked.function);
        if (made == null) {
            call("auto", goal);
        } else {
            call("fill", goal, lay(made));
        }
    }

    private void look(int goal) {
        call("goalState", goal);
        call("goalType", goal);
        int many = call("contextSize", goal);
        for (int i = 0; i < many && oneIn(2); i++) {
            call("contextType", goal, someOf(many));
        }
    }

    private void accept() {
        int function = someOf(model.functions.size());
        call("openGoals", function);
        call("accept", function);
        call("isAccepted", function);
    }

    private void run() {
        Model.Term made = term(List.of(), data(), 7, -1);
        int node = made == null ? node() : lay(made);
        call("run", node);
        call("runByClauses", node);
        call("steps", node);
        call("valueSize", node);
    }

    private void ask() {
        call("size", node());
        call("number", node());
        call("normal", node());
        call("typeOf", node());
        call("level", node());
        call("isOf", node(), node());
        call("run", node());
    }

    private void askAll() {
        call("allSteps");
        call("filledShare");
        call("meanSize");
        call("isSound");
    }

    private void act() {
        switch (below(20)) {
            case 0: layAny(); break;
            case 1: case 2: layTyped(); break;
            case 3: case 4: declare(); break;
            case 5: case 6: case 7: split(); break;
            case 8: case 9: case 10: case 11: case 12: fill(); break;
            case 13: case 14: accept(); break;
            case 15: case 16: case 17: run(); break;
            case 18: ask(); break;
            default: rarely();
        }
    }

    private void rarely() {
        switch (below(6)) {
            case 0: call("addData"); break;
            case 1: addConstructor(); break;
            case 2: case 3: call("reopen", someOf(model.goals.size())); break;
            case 4: call("auto", goal()); break;
            default: askAll();
        }
    }

    // Runs that go to the limits of normal forms, graphs and runs

    private static Model.Term variable(int index) {
        return leaf(Model.Kind.VARIABLE, index);
    }

    private static Model.Term apply(Model.Term head, Model.Term... arguments) {
        Model.Term made = head;
        for (Model.Term argument : arguments) {
            made = Model.pair(Model.Kind.APPLICATION, made, argument);
        }
        return made;
    }

    private static Model.Term lambda(Model.Term domain, Model.Term body) {
        return Model.pair(Model.Kind.LAMBDA, domain, body);
    }

    /** A term with many places for steps, whatever its type. */
    private Model.Term loose(int depth, int size) {
        if (size < 3) {
            return depth == 0 || oneIn(8) ? leaf(Model.Kind.UNIVERSE, below(4)) : variable(below(depth + (oneIn(6) ? 1 : 0)));
        }
        int rest = size - 1;
        switch (below(8)) {
            case 0: return Model.pair(Model.Kind.FUNCTIONS, loose(depth, rest / 4), loose(depth + 1, rest - rest / 4));
            case 1: return lambda(loose(depth, 1), loose(depth + 1, rest - 1));
            case 2: case 3:
                int part = 1 + below(rest - 1);
                return apply(loose(depth, part), loose(depth, rest - part));
            default:
                int value = 1 + below(Math.max(1, rest / 2));
                return apply(lambda(loose(depth, 1), loose(depth + 1, Math.max(1, rest - value - 2))), loose(depth, value));
        }
    }

    private void normals() {
        call("addData");
        while (true) {
            int node = lay(loose(0, 5 + below(26)));
            call("normal", node);
            call("typeOf", node);
            call("isOf", node, node);
        }
    }

    private int declareOver(int data, int many) {
        Model.Term type = leaf(Model.Kind.DATA, data);
        for (int i = 0; i < many; i++) {
            type = Model.pair(Model.Kind.FUNCTIONS, leaf(Model.Kind.DATA, data), type);
        }
        return call("declare", lay(type));
    }

    /** Calls of one function, one within another, mostly with variables. */
    private Model.Term calls(int function, int arity, int variables, int fuel) {
        Model.Term[] arguments = new Model.Term[arity];
        for (int i = 0; i < arity; i++) {
            if (fuel > 0 && oneIn(4)) {
                arguments[i] = calls(function, arity, variables, fuel - 1);
            } else {
                arguments[i] = variables > 0 && !oneIn(9) ? variable(below(variables)) : leaf(Model.Kind.CONSTRUCTOR, 0);
            }
        }
        Model.Term made = apply(leaf(Model.Kind.FUNCTION, function), arguments);
        return oneIn(7) ? apply(lambda(leaf(Model.Kind.DATA, 0), Model.shift(made, 1, 0)), variable(0)) : made;
    }

    private void graphs() {
        call("addData");
        call("addConstructor", 0, 0, 0, 0, 0);
        call("addConstructor", 0, 1, 0, 0, 0);
        while (model.functions.size() < 8) {
            int arity = 2 + below(3);
            int function = declareOver(0, arity);
            if (function < 0) {
                break;
            }
            for (int i = below(4); i > 0; i--) {
                call("split", below(model.goals.size()), below(arity));
            }
            fillAll(function, arity);
            for (int i = 0; i < 6 && call("accept", function) < 0; i++) {
                int goal = below(model.goals.size());
                call("reopen", goal);
                fillAll(function, arity);
            }
        }
        while (true) {
            act();
        }
    }

    private void fillAll(int function, int arity) {
        for (int i = 0; i < model.goals.size(); i++) {
            Model.Goal goal = model.goals.get(i);
            if (goal.function == function && goal.state == 'o') {
                int variables = goal.context.size();
                if (call("fill", i, lay(calls(function, arity, variables, below(3)))) < 0) {
                    call("fill", i, lay(leaf(Model.Kind.CONSTRUCTOR, 0)));
                }
            }
        }
    }

    /** One function of trees, whose goals call it with variables that are smaller, in ever other places. */
    private void graphsThatEnd() {
        call("addData");
        call("addConstructor", 0, 0, 0, 0, 0);
        call("addConstructor", 0, 1, 0, 0, 0);
        call("addConstructor", 0, 2, 0, 0, 0);
        int arity = 2 + below(3);
        declareOver(0, arity);
        int goal = 0;
        for (int i = 0; i < arity; i++) {
            int place = model.goals.get(goal).context.size() - arity + i;
            if (!oneIn(5) && call("split", goal, Math.max(place, 0)) > 0) {
                goal = model.goals.size() - 1 - below(2);
            }
        }
        int clauses = 1 + below(3);
        while (true) {
            int filled = 0;
            for (int i = model.goals.size() - 1; i >= 0; i--) {
                if (model.goals.get(i).state == 'o') {
                    Model.Term tip = leaf(Model.Kind.CONSTRUCTOR, 0);
                    int variables = model.goals.get(i).context.size();
                    boolean calls = filled < clauses && variables > 0;
                    call("fill", i, lay(calls ? smallerCalls(arity, variables) : tip));
                    filled++;
                }
            }
            if (call("accept", 0) >= 0) {
                break;
            }
            for (int i = 0; i < clauses; i++) {
                call("reopen", model.goals.size() - 1 - i);
            }
        }
        while (true) {
            act();
        }
    }

    private Model.Term smallerCalls(int arity, int variables) {
        Model.Term made = null;
        for (int i = 1 + below(3); i > 0; i--) {
            Model.Term one = leaf(Model.Kind.FUNCTION, 0);
            for (int j = 0; j < arity; j++) {
                one = apply(one, oneIn(12) ? leaf(Model.Kind.CONSTRUCTOR, 0) : variable(below(variables)));
            }
            Model.Term both = made == null ? one : apply(leaf(Model.Kind.CONSTRUCTOR, 2), made, one);
            made = both.size() > 30 ? made : both;
        }
        return made;
    }

    /** Functions of numbers and of trees that make much of little. */
    private void longRuns() {
        call("addData");
        call("addConstructor", 0, 0, 0, 0, 0);
        call("addConstructor", 0, 1, 0, 0, 0);
        call("addData");
        call("addConstructor", 1, 0, 0, 0, 0);
        call("addConstructor", 1, 2, 1, 1, 0);
        call("addConstructor", 1, 3, 1, 0, 1);
        Model.Term next = leaf(Model.Kind.CONSTRUCTOR, 1);
        Model.Term zero = leaf(Model.Kind.CONSTRUCTOR, 0);
        Model.Term tree = leaf(Model.Kind.DATA, 1);
        Model.Term fork = leaf(Model.Kind.CONSTRUCTOR, 3);
        Model.Term tripleFork = apply(leaf(Model.Kind.CONSTRUCTOR, 4), variable(0), zero, variable(0));
        Model.Term f0 = leaf(Model.Kind.FUNCTION, 0);
        Model.Term f1 = leaf(Model.Kind.FUNCTION, 1);
        Model.Term f2 = leaf(Model.Kind.FUNCTION, 2);
        declareOver(0, 2);
        call("split", 0, 0);
        call("fill", 1, lay(variable(0)));
        call("fill", 2, lay(oneIn(2) ? apply(next, apply(f0, variable(1), variable(0)))
                : apply(f0, variable(1), apply(next, variable(0)))));
        call("accept", 0);
        declareOver(0, 1);
        call("split", 3, 0);
        call("fill", 4, lay(zero));
        call("fill", 5, lay(apply(f0, apply(f1, variable(0)), apply(f1, variable(0)))));
        if (oneIn(2)) {
            call("reopen", 5);
            call("fill", 5, lay(apply(next, apply(next, apply(f1, variable(0))))));
        }
        call("accept", 1);
        call("declare", lay(Model.pair(Model.Kind.FUNCTIONS, leaf(Model.Kind.DATA, 0), tree)));
        call("split", 6, 0);
        call("fill", 7, lay(leaf(Model.Kind.CONSTRUCTOR, 2)));
        Model.Term body = oneIn(2) ? apply(fork, variable(0), variable(0)) : tripleFork;
        call("fill", 8, lay(apply(lambda(tree, body), apply(f2, variable(0)))));
        call("accept", 2);
        for (int i = 0; i < 40; i++) {
            runLong();
        }
        while (true) {
            act();
        }
    }

    private Model.Term number(int fuel) {
        Model.Term made = leaf(Model.Kind.CONSTRUCTOR, 0);
        int many = below(fuel + 1);
        for (int i = 0; i < many; i++) {
            made = apply(leaf(Model.Kind.CONSTRUCTOR, 1), made);
        }
        int choice = below(5);
        if (choice == 0) {
            return apply(leaf(Model.Kind.FUNCTION, 0), made, number(fuel - many));
        }
        return choice == 1 ? apply(leaf(Model.Kind.FUNCTION, 1), made) : made;
    }

    private void runLong() {
        Model.Term made = number(13);
        made = oneIn(3) ? apply(leaf(Model.Kind.FUNCTION, 2), made) : made;
        int node = lay(made);
        call("run", node);
        call("runByClauses", node);
        call("steps", node);
        call("valueSize", node);
        call("allSteps");
    }

    private void anything() {
        begin();
        while (true) {
            act();
        }
    }

    private boolean comesOut(int seed) {
        try {
            switch (seed % 7) {
                case 0: normals(); break;
                case 1: graphs(); break;
                case 2: longRuns(); break;
                case 3: graphsThatEnd(); break;
                default: anything();
            }
        } catch (Over over) {
            return wrong == 0;
        }
        return false;
    }

    public static void main(String[] args) {
        int runs = args.length > 0 ? Integer.parseInt(args[0]) : 1500;
        int first = args.length > 1 ? Integer.parseInt(args[1]) : 1;
        for (int seed = first; seed < first + runs; seed++) {
            RandomRunsTest run = new RandomRunsTest(seed);
            if (!run.comesOut(seed)) {
                System.out.println("the run by seed " + seed + " went wrong; its calls:");
                for (String call : run.told) {
                    System.out.println(call);
                }
                System.exit(1);
            }
        }
        if (args.length > 2) {
            for (Map.Entry<String, Integer> seen : SEEN.entrySet()) {
                System.out.println(seen.getKey() + ": " + seen.getValue());
            }
        }
    }
}
