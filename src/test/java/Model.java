import java.util.ArrayList;
import java.util.Arrays;
import java.util.LinkedHashSet;
import java.util.List;
import java.util.NoSuchElementException;
import java.util.Set;

/**
 * The document once more, as plainly as it can be written: trees for terms, nothing shared, nothing remembered.
 * It has the face of the class, so that the same calls can be made of both.
 */
public final class Model {
    enum Kind { UNIVERSE, VARIABLE, DATA, CONSTRUCTOR, FUNCTION, FUNCTIONS, LAMBDA, APPLICATION }

    /** A term; the parameter is a level, an index or a number. */
    record Term(Kind kind, int parameter, Term first, Term second) {
        boolean isPair() {
            return first != null;
        }

        boolean binds() {
            return kind == Kind.FUNCTIONS || kind == Kind.LAMBDA;
        }

        int size() {
            return isPair() ? 1 + first.size() + second.size() : 1;
        }

        int number() {
            switch (kind) {
                case UNIVERSE: return 3 + parameter;
                case VARIABLE: return 11 + parameter;
                case DATA: return 101 + parameter;
                case CONSTRUCTOR: return 201 + parameter;
                case FUNCTION: return 301 + parameter;
                case FUNCTIONS: return (int) ((7L * first.number() + 13L * second.number() + 17) % 1000003);
                case LAMBDA: return (int) ((11L * first.number() + 19L * second.number() + 23) % 1000003);
                default: return (int) ((29L * first.number() + 31L * second.number() + 37) % 1000003);
            }
        }

        boolean calls(int function) {
            return kind == Kind.FUNCTION && parameter == function
                    || isPair() && (first.calls(function) || second.calls(function));
        }

        boolean hasVariable(int index) {
            if (!isPair()) {
                return kind == Kind.VARIABLE && parameter == index;
            }
            return first.hasVariable(index) || second.hasVariable(binds() ? index + 1 : index);
        }

        int constructors() {
            return isPair() ? first.constructors() + second.constructors() : kind == Kind.CONSTRUCTOR ? 1 : 0;
        }
    }

    static Term leaf(Kind kind, int parameter) {
        return new Term(kind, parameter, null, null);
    }

    static Term pair(Kind kind, Term first, Term second) {
        return new Term(kind, 0, first, second);
    }

    /** The term with each variable of index from or more put as the one with an index so much higher. */
    static Term shift(Term t, int by, int from) {
        if (t.kind == Kind.VARIABLE) {
            return t.parameter >= from ? leaf(Kind.VARIABLE, t.parameter + by) : t;
        }
        return t.isPair() ? pair(t.kind, shift(t.first, by, from), shift(t.second, by, t.binds() ? from + 1 : from)) : t;
    }

    /** Each variable of the context gets a term that stands in another context; those are given by index. */
    static Term replace(Term t, List<Term> terms, int beyond, int depth) {
        if (t.kind == Kind.VARIABLE) {
            int index = t.parameter - depth;
            if (index < 0) {
                return t;
            }
            return index < terms.size() ? shift(terms.get(index), depth, 0)
                    : leaf(Kind.VARIABLE, t.parameter - terms.size() + beyond);
        }
        return t.isPair() ? pair(t.kind, replace(t.first, terms, beyond, depth),
                replace(t.second, terms, beyond, t.binds() ? depth + 1 : depth)) : t;
    }

    static Term put(Term body, Term value) {
        return replace(body, List.of(value), 0, 0);
    }

    static Term step(Term t) {
        if (!t.isPair()) {
            return null;
        }
        if (t.kind == Kind.APPLICATION && t.first.kind == Kind.LAMBDA) {
            return put(t.first.second, t.second);
        }
        Term made = step(t.first);
        if (made != null) {
            return pair(t.kind, made, t.second);
        }
        made = step(t.second);
        return made == null ? null : pair(t.kind, t.first, made);
    }

    static Term form(Term t) {
        Term now = t;
        for (int taken = 0; now != null && now.size() <= 80; taken++) {
            Term next = step(now);
            if (next == null) {
                return now;
            }
            if (taken == 20) {
                return null;
            }
            now = next;
        }
        return null;
    }

    record Constructor(int data, List<Integer> parts) {
        Term type() {
            Term type = leaf(Kind.DATA, data);
            for (int i = parts.size() - 1; i >= 0; i--) {
                type = pair(Kind.FUNCTIONS, leaf(Kind.DATA, parts.get(i)), type);
            }
            return type;
        }
    }

    static final class Function {
        Term type;
        int arity;
        boolean accepted;
    }

    static final class Goal {
        int function;
        List<Term> context = new ArrayList<>();
        Term type;
        List<Term> patterns = new ArrayList<>();
        char state = 'o';
        Term right;
    }

    final List<Term> nodes = new ArrayList<>();
    final List<Constructor> constructors = new ArrayList<>();
    final List<Function> functions = new ArrayList<>();
    final List<Goal> goals = new ArrayList<>();
    final boolean[] wasSplit = new boolean[6];
    int data;
    private long allSteps;

    // What a run came to last, to see how far the tests reach.
    int lastSteps;
    int lastGraphs;
    String lastEnd = "";

    private Term node(int node) {
        if (node < 0 || node >= nodes.size()) {
            throw new IndexOutOfBoundsException();
        }
        return nodes.get(node);
    }

    private Goal goal(int goal) {
        if (goal < 0 || goal >= goals.size()) {
            throw new NoSuchElementException();
        }
        return goals.get(goal);
    }

    private Function function(int function) {
        if (function < 0 || function >= functions.size()) {
            throw new NoSuchElementException();
        }
        return functions.get(function);
    }

    private int lay(Term term) {
        if (nodes.size() == 250 || term.size() > 30) {
            throw new IllegalStateException();
        }
        nodes.add(term);
        return nodes.size() - 1;
    }

    public int universe(int level) {
        if (level < 0 || level > 3) {
            throw new IllegalArgumentException();
        }
        return lay(leaf(Kind.UNIVERSE, level));
    }

    public int variable(int index) {
        if (index < 0 || index > 15) {
            throw new IllegalArgumentException();
        }
        return lay(leaf(Kind.VARIABLE, index));
    }

    public int functions(int domain, int codomain) {
        return lay(pair(Kind.FUNCTIONS, node(domain), node(codomain)));
    }

    public int lambda(int domain, int body) {
        return lay(pair(Kind.LAMBDA, node(domain), node(body)));
    }

    public int apply(int function, int argument) {
        return lay(pair(Kind.APPLICATION, node(function), node(argument)));
    }

    public int dataNode(int number) {
        if (number < 0 || number >= data) {
            throw new NoSuchElementException();
        }
        return lay(leaf(Kind.DATA, number));
    }

    public int constructorNode(int constructor) {
        if (constructor < 0 || constructor >= constructors.size()) {
            throw new NoSuchElementException();
        }
        return lay(leaf(Kind.CONSTRUCTOR, constructor));
    }

    public int functionNode(int function) {
        function(function);
        return lay(leaf(Kind.FUNCTION, function));
    }

    public int addData() {
        if (data == 6) {
            throw new IllegalStateException();
        }
        return data++;
    }

    public int addConstructor(int of, int many, int first, int second, int third) {
        if (many < 0 || many > 3) {
            throw new IllegalArgumentException();
        }
        List<Integer> parts = List.of(first, second, third).subList(0, many);
        if (of < 0 || of >= data) {
            throw new NoSuchElementException();
        }
        for (int part : parts) {
            if (part < 0 || part >= data) {
                throw new NoSuchElementException();
            }
        }
        if (constructors.size() == 16 || wasSplit[of] || functions.stream().anyMatch(f -> f.accepted)) {
            throw new IllegalStateException();
        }
        constructors.add(new Constructor(of, parts));
        return constructors.size() - 1;
    }

    public int size(int node) {
        return node(node).size();
    }

    public int number(int node) {
        return node(node).number();
    }

    private static Term there(Term term) {
        if (term == null) {
            throw new UnsupportedOperationException();
        }
        return term;
    }

    public int normal(int node) {
        return there(form(node(node))).number();
    }

    /** The normal form of a type, or null if one of both is not there. */
    private static Term formOrNull(Term type) {
        return type == null ? null : form(type);
    }

    private int levelOf(List<Term> context, Term t) {
        Term type = formOrNull(type(context, t));
        return type != null && type.kind == Kind.UNIVERSE ? type.parameter : -1;
    }

    private static List<Term> and(List<Term> context, Term more) {
        List<Term> all = new ArrayList<>(context);
        all.add(more);
        return all;
    }

    Term type(List<Term> context, Term t) {
        switch (t.kind) {
            case UNIVERSE:
                return t.parameter < 3 ? leaf(Kind.UNIVERSE, t.parameter + 1) : null;
            case VARIABLE:
                int place = context.size() - 1 - t.parameter;
                return place < 0 ? null : shift(context.get(place), t.parameter + 1, 0);
            case DATA:
                return leaf(Kind.UNIVERSE, 0);
            case CONSTRUCTOR:
                return constructors.get(t.parameter).type();
            case FUNCTION:
                return functions.get(t.parameter).type;
            case FUNCTIONS: {
                int one = levelOf(context, t.first);
                int two = levelOf(and(context, t.first), t.second);
                return one < 0 || two < 0 ? null : leaf(Kind.UNIVERSE, Math.max(one, two));
            }
            case LAMBDA: {
                Term below = type(and(context, t.first), t.second);
                return levelOf(context, t.first) < 0 || below == null ? null : pair(Kind.FUNCTIONS, t.first, below);
            }
            default: {
                Term of = formOrNull(type(context, t.first));
                Term given = formOrNull(type(context, t.second));
                boolean fits = of != null && of.kind == Kind.FUNCTIONS && of.first.equals(given);
                return fits ? put(of.second, t.second) : null;
            }
        }
    }

    public int typeOf(int node) {
        return there(formOrNull(type(List.of(), node(node)))).number();
    }

    public int level(int node) {
        int level = levelOf(List.of(), node(node));
        if (level < 0) {
            throw new UnsupportedOperationException();
        }
        return level;
    }

    public boolean isOf(int node, int type) {
        Term one = node(node);
        Term two = form(node(type));
        return two != null && two.equals(formOrNull(type(List.of(), one)));
    }

    public int declare(int node) {
        Term term = node(node);
        Term form = levelOf(List.of(), term) < 0 ? null : form(term);
        there(form);
        Function made = new Function();
        Goal goal = new Goal();
        made.type = form;
        while (form.kind == Kind.FUNCTIONS) {
            goal.context.add(form.first);
            form = form.second;
        }
        goal.type = form;
        made.arity = goal.context.size();
        for (int i = 0; i < made.arity; i++) {
            goal.patterns.add(leaf(Kind.VARIABLE, made.arity - 1 - i));
        }
        if (made.arity < 1 || made.arity > 4) {
            throw new UnsupportedOperationException();
        }
        if (functions.size() == 8 || goals.size() == 40) {
            throw new IllegalStateException();
        }
        goal.function = functions.size();
        functions.add(made);
        goals.add(goal);
        return goal.function;
    }

    private static void needPlace(Goal goal, int place) {
        if (place < 0 || place >= goal.context.size()) {
            throw new IndexOutOfBoundsException();
        }
    }

    private static void needOpen(Goal goal) {
        if (goal.state != 'o') {
            throw new IllegalStateException();
        }
    }

    public int split(int number, int place) {
        Goal goal = goal(number);
        needPlace(goal, place);
        needOpen(goal);
        Term type = goal.context.get(place);
        if (type.kind != Kind.DATA) {
            throw new UnsupportedOperationException();
        }
        int made = 0;
        for (Constructor one : constructors) {
            if (one.data == type.parameter) {
                made++;
                if (goal.context.size() - 1 + one.parts.size() > 12) {
                    throw new IllegalStateException();
                }
            }
        }
        if (goals.size() + made > 40) {
            throw new IllegalStateException();
        }
        List<Goal> children = new ArrayList<>();
        for (int i = 0; i < constructors.size(); i++) {
            if (constructors.get(i).data == type.parameter) {
                children.add(child(goal, place, i));
            }
        }
        goals.addAll(children);
        goal.state = 's';
        wasSplit[type.parameter] = true;
        return made;
    }

    private Goal child(Goal goal, int place, int constructor) {
        List<Integer> parts = constructors.get(constructor).parts;
        int many = parts.size();
        Term value = leaf(Kind.CONSTRUCTOR, constructor);
        for (int i = 0; i < many; i++) {
            value = pair(Kind.APPLICATION, value, leaf(Kind.VARIABLE, many - 1 - i));
        }
        Goal child = new Goal();
        child.function = goal.function;
        child.context.addAll(goal.context.subList(0, place));
        for (int part : parts) {
            child.context.add(leaf(Kind.DATA, part));
        }
        for (int i = place + 1; i < goal.context.size(); i++) {
            child.context.add(there(form(instead(goal.context.get(i), value, many, i - place - 1))));
        }
        int behind = goal.context.size() - place - 1;
        child.type = there(form(instead(goal.type, value, many, behind)));
        for (Term pattern : goal.patterns) {
            child.patterns.add(instead(pattern, value, many, behind));
        }
        return child;
    }

    /** So many variables are behind the one that gives way to the value. */
    private static Term instead(Term t, Term value, int many, int behind) {
        List<Term> all = new ArrayList<>();
        for (int i = 0; i < behind; i++) {
            all.add(leaf(Kind.VARIABLE, i));
        }
        all.add(shift(value, behind, 0));
        return replace(t, all, behind + many, 0);
    }

    private int open(int function) {
        return (int) goals.stream().filter(g -> g.function == function && g.state == 'o').count();
    }

    public int fill(int number, int node) {
        Goal goal = goal(number);
        Term term = node(node);
        needOpen(goal);
        for (int i = 0; i < functions.size(); i++) {
            if (term.calls(i) && i != goal.function && !functions.get(i).accepted) {
                throw new UnsupportedOperationException();
            }
        }
        if (!goal.type.equals(formOrNull(type(goal.context, term)))) {
            throw new UnsupportedOperationException();
        }
        goal.state = 'f';
        goal.right = term;
        return open(goal.function);
    }

    public int auto(int number) {
        Goal goal = goal(number);
        needOpen(goal);
        for (int index = 0; index < goal.context.size(); index++) {
            Term variable = leaf(Kind.VARIABLE, index);
            if (goal.type.equals(type(goal.context, variable))) {
                goal.state = 'f';
                goal.right = variable;
                return goal.context.size() - 1 - index;
            }
        }
        throw new UnsupportedOperationException();
    }

    public int reopen(int number) {
        Goal goal = goal(number);
        if (goal.state != 'f' || functions.get(goal.function).accepted) {
            throw new IllegalStateException();
        }
        int size = goal.right.size();
        goal.state = 'o';
        goal.right = null;
        return size;
    }

    public char goalState(int goal) {
        return goal(goal).state;
    }

    public int contextSize(int goal) {
        return goal(goal).context.size();
    }

    public int contextType(int goal, int place) {
        Goal asked = goal(goal);
        needPlace(asked, place);
        return asked.context.get(place).number();
    }

    public int goalType(int goal) {
        return goal(goal).type.number();
    }

    public int openGoals(int function) {
        function(function);
        return open(function);
    }

    public boolean isAccepted(int function) {
        return function(function).accepted;
    }

    public int accept(int number) {
        Function function = function(number);
        if (function.accepted || open(number) > 0) {
            throw new IllegalStateException();
        }
        Set<List<String>> graphs = new LinkedHashSet<>();
        for (Goal goal : goals) {
            if (goal.function == number && goal.state == 'f') {
                collect(goal, number, function.arity, goal.right, 0, List.of(), graphs);
            }
        }
        lastGraphs = graphs.size();
        boolean more = true;
        while (more) {
            List<List<String>> now = new ArrayList<>(graphs);
            more = false;
            for (List<String> one : now) {
                for (List<String> two : now) {
                    more |= graphs.add(behind(one, two));
                    lastGraphs = graphs.size();
                    if (graphs.size() > 200) {
                        throw new UnsupportedOperationException();
                    }
                }
            }
        }
        for (List<String> graph : graphs) {
            boolean descends = false;
            for (int i = 0; i < function.arity; i++) {
                descends |= graph.get(i).charAt(i) == '<';
            }
            if (graph.equals(behind(graph, graph)) && !descends) {
                throw new UnsupportedOperationException();
            }
        }
        function.accepted = true;
        return graphs.size();
    }

    /** The arguments are those to which the term is applied, the first one first, each with its depth. */
    private static void collect(Goal goal, int own, int arity, Term t, int depth, List<Term> arguments,
            Set<List<String>> graphs) {
        if (t.kind == Kind.FUNCTION && t.parameter == own) {
            graphs.add(graph(goal, arity, depth, arguments));
        } else if (t.kind == Kind.APPLICATION) {
            List<Term> more = new ArrayList<>(arguments);
            more.add(0, t.second);
            collect(goal, own, arity, t.first, depth, more, graphs);
            collect(goal, own, arity, t.second, depth, List.of(), graphs);
        } else if (t.isPair()) {
            collect(goal, own, arity, t.first, depth, List.of(), graphs);
            collect(goal, own, arity, t.second, depth + 1, List.of(), graphs);
        }
    }

    private static List<String> graph(Goal goal, int arity, int depth, List<Term> arguments) {
        List<String> rows = new ArrayList<>();
        for (Term pattern : goal.patterns) {
            StringBuilder row = new StringBuilder();
            for (int i = 0; i < arity; i++) {
                Term argument = i < arguments.size() ? arguments.get(i) : null;
                char sign = '.';
                if (argument != null && argument.kind == Kind.VARIABLE && argument.parameter >= depth) {
                    int index = argument.parameter - depth;
                    if (pattern.equals(leaf(Kind.VARIABLE, index))) {
                        sign = '=';
                    } else if (pattern.hasVariable(index)) {
                        sign = '<';
                    }
                }
                row.append(sign);
            }
            rows.add(row.toString());
        }
        return rows;
    }

    private static List<String> behind(List<String> one, List<String> two) {
        List<String> rows = new ArrayList<>();
        for (int i = 0; i < one.size(); i++) {
            StringBuilder row = new StringBuilder();
            for (int k = 0; k < one.size(); k++) {
                char sign = '.';
                for (int j = 0; j < one.size(); j++) {
                    char left = one.get(i).charAt(j);
                    char right = two.get(j).charAt(k);
                    if (left != '.' && right != '.') {
                        sign = sign == '<' || left == '<' || right == '<' ? '<' : '=';
                    }
                }
                row.append(sign);
            }
            rows.add(row.toString());
        }
        return rows;
    }

    /** A run that fails. */
    private static final class Failed extends RuntimeException {
        private static final long serialVersionUID = 1L;

        Failed(String why) {
            super(why, null, false, false);
        }
    }

    private static Term small(Term t, String what) {
        if (t.size() > 200) {
            throw new Failed("size of " + what);
        }
        return t;
    }

    private void takeStep() {
        if (lastSteps == 40) {
            throw new Failed("steps");
        }
        lastSteps++;
    }

    private Term value(Term t) {
        if (t.kind != Kind.APPLICATION) {
            return t;
        }
        Term function = value(t.first);
        Term argument = value(t.second);
        if (function.kind == Kind.LAMBDA) {
            takeStep();
            return value(small(put(function.second, argument), "body"));
        }
        Term whole = small(pair(Kind.APPLICATION, function, argument), "value");
        List<Term> arguments = new ArrayList<>();
        Term head = whole;
        while (head.kind == Kind.APPLICATION) {
            arguments.add(0, head.second);
            head = head.first;
        }
        if (head.kind == Kind.FUNCTION && arguments.size() == functions.get(head.parameter).arity) {
            takeStep();
            return value(small(rightSide(head.parameter, arguments), "right side"));
        }
        return whole;
    }

    private Term rightSide(int function, List<Term> arguments) {
        Term found = null;
        for (Goal goal : goals) {
            if (goal.function == function && goal.state == 'f') {
                Term[] values = new Term[goal.context.size()];
                boolean alike = true;
                for (int i = 0; i < arguments.size(); i++) {
                    alike &= match(goal.patterns.get(i), arguments.get(i), values);
                }
                if (alike && found != null) {
                    throw new AssertionError("two clauses for one row of values");
                }
                if (alike) {
                    found = replace(goal.right, Arrays.asList(values), 0, 0);
                }
            }
        }
        if (found == null) {
            throw new AssertionError("no clause for a row of values");
        }
        return found;
    }

    /** The values are by index. */
    private static boolean match(Term pattern, Term value, Term[] values) {
        if (pattern.kind == Kind.VARIABLE) {
            values[pattern.parameter] = value;
            return true;
        }
        if (pattern.kind == Kind.APPLICATION && value.kind == Kind.APPLICATION) {
            return match(pattern.first, value.first, values) && match(pattern.second, value.second, values);
        }
        return pattern.equals(value);
    }

    private Term outcome(int node) {
        Term term = node(node);
        Term type = formOrNull(type(List.of(), term));
        boolean runs = type != null && type.kind == Kind.DATA;
        for (int i = 0; i < functions.size(); i++) {
            runs &= functions.get(i).accepted || !term.calls(i);
        }
        lastEnd = "not run";
        lastSteps = 0;
        if (!runs) {
            throw new UnsupportedOperationException();
        }
        try {
            Term value = value(term);
            lastEnd = "value";
            return value;
        } catch (Failed failed) {
            lastEnd = failed.getMessage();
            throw new UnsupportedOperationException();
        }
    }

    public int run(int node) {
        Term value = outcome(node);
        allSteps += lastSteps;
        return value.number();
    }

    public int runByClauses(int node) {
        return outcome(node).number();
    }

    public int steps(int node) {
        outcome(node);
        return lastSteps;
    }

    public int valueSize(int node) {
        return outcome(node).constructors();
    }

    public long allSteps() {
        return allSteps;
    }

    private long many(char state) {
        return goals.stream().filter(g -> g.state == state).count();
    }

    public float filledShare() {
        if (many('f') + many('o') == 0) {
            throw new ArithmeticException();
        }
        return (float) many('f') / (float) (many('f') + many('o'));
    }

    public double meanSize() {
        if (many('f') == 0) {
            throw new ArithmeticException();
        }
        int sum = 0;
        for (Goal goal : goals) {
            sum += goal.state == 'f' ? goal.right.size() : 0;
        }
        return (double) sum / (double) many('f');
    }

    public boolean isSound() {
        for (Goal goal : goals) {
            if (goal.state == 'f' && !goal.type.equals(formOrNull(type(goal.context, goal.right)))) {
                return false;
            }
            if (goal.state == 'o' && functions.get(goal.function).accepted) {
                return false;
            }
        }
        return true;
    }
}
