import java.util.NoSuchElementException;

/**
 * A court for a small language in which types are terms. The promises that are told by number in the document
 * are kept here; the words are those of the document.
 */
public final class TelescopeCourt {
    private static final int NONE = -1;

    private static final int UNIVERSE = 0;
    private static final int VARIABLE = 1;
    private static final int DATA = 2;
    private static final int CONSTRUCTOR = 3;
    private static final int FUNCTION = 4;
    private static final int FUNCTIONS = 5;
    private static final int LAMBDA = 6;
    private static final int APPLICATION = 7;

    private static final int MODULUS = 1000003;
    private static final int[] NUMBER_OF_LEAF = {3, 11, 101, 201, 301};
    private static final int[] FACTOR_OF_FIRST = {7, 11, 29};
    private static final int[] FACTOR_OF_SECOND = {13, 19, 31};
    private static final int[] ADDED_TO_PAIR = {17, 23, 37};

    private static final int MOST_LEVEL = 3;
    private static final int MOST_INDEX = 15;
    private static final int MOST_NODES = 250;
    private static final int MOST_SIZE_OF_NODE = 30;
    private static final int MOST_DATA = 6;
    private static final int MOST_CONSTRUCTORS = 16;
    private static final int MOST_PARTS = 3;
    private static final int MOST_FUNCTIONS = 8;
    private static final int MOST_ARGUMENTS = 4;
    private static final int MOST_GOALS = 40;
    private static final int MOST_IN_CONTEXT = 12;
    private static final int MOST_GRAPHS = 200;
    private static final int MOST_STEPS_TO_FORM = 20;
    private static final int MOST_SIZE_ON_THE_WAY = 80;
    private static final int MOST_STEPS_OF_RUN = 40;
    private static final int MOST_SIZE_IN_RUN = 200;

    private static final char OPEN = 'o';
    private static final char SPLIT = 's';
    private static final char FILLED = 'f';

    private final Terms terms;
    private final Forms forms;
    private final Signature signature;
    private final Docket docket;
    private final Typing typing;
    private final Graphs graphs;
    private final Machine machine;
    private final int[] nodes;
    private int laid;
    private long stepsOfRuns;

    public TelescopeCourt() {
        terms = new Terms();
        forms = new Forms(terms);
        signature = new Signature(terms);
        docket = new Docket(terms, forms, signature);
        typing = new Typing(terms, forms, signature, docket);
        graphs = new Graphs(terms);
        machine = new Machine(terms, signature, docket);
        nodes = new int[MOST_NODES];
    }

    // Nodes

    public int universe(int level) throws IllegalArgumentException, IllegalStateException {
        if (level < 0 || level > MOST_LEVEL) {
            throw new IllegalArgumentException("a level is 0 to 3");
        }
        return layLeaf(UNIVERSE, level);
    }

    public int variable(int index) throws IllegalArgumentException, IllegalStateException {
        if (index < 0 || index > MOST_INDEX) {
            throw new IllegalArgumentException("an index is 0 to 15");
        }
        return layLeaf(VARIABLE, index);
    }

    public int functions(int domain, int codomain) throws IndexOutOfBoundsException, IllegalStateException {
        return layPair(FUNCTIONS, domain, codomain);
    }

    public int lambda(int domain, int body) throws IndexOutOfBoundsException, IllegalStateException {
        return layPair(LAMBDA, domain, body);
    }

    public int apply(int function, int argument) throws IndexOutOfBoundsException, IllegalStateException {
        return layPair(APPLICATION, function, argument);
    }

    public int dataNode(int data) throws NoSuchElementException, IllegalStateException {
        if (!signature.hasData(data)) {
            throw new NoSuchElementException("no such data type");
        }
        return layLeaf(DATA, data);
    }

    public int constructorNode(int constructor) throws NoSuchElementException, IllegalStateException {
        if (!signature.hasConstructor(constructor)) {
            throw new NoSuchElementException("no such constructor");
        }
        return layLeaf(CONSTRUCTOR, constructor);
    }

    public int functionNode(int function) throws NoSuchElementException, IllegalStateException {
        functionAt(function);
        return layLeaf(FUNCTION, function);
    }

    public int addData() throws IllegalStateException {
        if (signature.dataCount >= MOST_DATA) {
            throw new IllegalStateException("there are 6 data types");
        }
        return signature.enterData();
    }

    public int addConstructor(int data, int many, int first, int second, int third)
            throws IllegalArgumentException, NoSuchElementException, IllegalStateException {
        if (many < 0 || many > MOST_PARTS) {
            throw new IllegalArgumentException("a constructor takes 0 to 3 arguments");
        }
        boolean areThere = signature.hasData(data)
                && (many < 1 || signature.hasData(first))
                && (many < 2 || signature.hasData(second))
                && (many < 3 || signature.hasData(third));
        if (!areThere) {
            throw new NoSuchElementException("no such data type");
        }
        if (signature.constructorCount >= MOST_CONSTRUCTORS || signature.wasSplit(data) || docket.acceptedOnes != 0) {
            throw new IllegalStateException("no more constructors for this data type");
        }
        return signature.enterConstructor(data, many, first, second, third);
    }

    // Types

    public int size(int node) throws IndexOutOfBoundsException {
        return terms.sizeOf(termAt(node));
    }

    public int number(int node) throws IndexOutOfBoundsException {
        return terms.numberOf(termAt(node));
    }

    public int normal(int node) throws IndexOutOfBoundsException, UnsupportedOperationException {
        int term = termAt(node);
        int mark = terms.mark();
        return numberOfScratch(mark, forms.formOf(term));
    }

    public int typeOf(int node) throws IndexOutOfBoundsException, UnsupportedOperationException {
        int term = termAt(node);
        int mark = terms.mark();
        return numberOfScratch(mark, typing.formOf(term));
    }

    public int level(int node) throws IndexOutOfBoundsException, UnsupportedOperationException {
        int found = typing.levelOf(termAt(node));
        if (found == NONE) {
            throw new UnsupportedOperationException("the term has no level");
        }
        return found;
    }

    public boolean isOf(int node, int type) throws IndexOutOfBoundsException {
        int term = termAt(node);
        int other = termAt(type);
        int mark = terms.mark();
        int one = typing.formOf(term);
        int two = forms.formOf(other);
        boolean alike = Moves.same(terms, one, two);
        terms.release(mark);
        return alike;
    }

    // Functions and goals

    public int declare(int type) throws IndexOutOfBoundsException, UnsupportedOperationException,
            IllegalStateException {
        int term = termAt(type);
        int mark = terms.mark();
        int form = typing.levelOf(term) == NONE ? NONE : forms.formOf(term);
        int arity = docket.domainsOf(form);
        if (arity < 1 || arity > MOST_ARGUMENTS) {
            terms.release(mark);
            throw new UnsupportedOperationException("no function can be declared with this type");
        }
        if (docket.functionCount >= MOST_FUNCTIONS || docket.goalCount >= MOST_GOALS) {
            terms.release(mark);
            throw new IllegalStateException("there are 8 functions or 40 goals");
        }
        return docket.enterFunction(form, arity);
    }

    public int split(int goal, int place) throws NoSuchElementException, IndexOutOfBoundsException,
            IllegalStateException, UnsupportedOperationException {
        Goal asked = goalAt(goal);
        needPlace(asked, place);
        if (asked.state != OPEN || docket.splitIsTooMuch(asked, place)) {
            throw new IllegalStateException("the goal is not open, or there would be too much of it");
        }
        int made = docket.splitBy(asked, place);
        if (made == NONE) {
            throw new UnsupportedOperationException("no data type, or a normal form is not there");
        }
        return made;
    }

    public int fill(int goal, int term) throws NoSuchElementException, IndexOutOfBoundsException,
            IllegalStateException, UnsupportedOperationException {
        Goal asked = goalAt(goal);
        int right = termAt(term);
        needOpen(asked);
        int allowed = docket.acceptedOnes | 1 << asked.function;
        if ((terms.callsOf(right) & ~allowed) != 0 || !typing.fits(asked.context, right, asked.type)) {
            throw new UnsupportedOperationException("no right side for this goal");
        }
        asked.fillWith(right);
        return docket.openOnesOf(asked.function);
    }

    public int auto(int goal) throws NoSuchElementException, IllegalStateException, UnsupportedOperationException {
        Goal asked = goalAt(goal);
        needOpen(asked);
        int place = docket.innermostThatFits(asked);
        if (place == NONE) {
            throw new UnsupportedOperationException("no variable has the type of the goal");
        }
        asked.fillWith(terms.leaf(VARIABLE, asked.context.many - 1 - place));
        return place;
    }

    public int reopen(int goal) throws NoSuchElementException, IllegalStateException {
        Goal asked = goalAt(goal);
        if (asked.state != FILLED || docket.hasAccepted(asked.function)) {
            throw new IllegalStateException("the goal is not filled, or its function is accepted");
        }
        int answer = terms.sizeOf(asked.right);
        asked.open();
        return answer;
    }

    public char goalState(int goal) throws NoSuchElementException {
        return goalAt(goal).state;
    }

    public int contextSize(int goal) throws NoSuchElementException {
        return goalAt(goal).context.many;
    }

    public int contextType(int goal, int place) throws NoSuchElementException, IndexOutOfBoundsException {
        Goal asked = goalAt(goal);
        needPlace(asked, place);
        return terms.numberOf(asked.context.typeAt(place));
    }

    public int goalType(int goal) throws NoSuchElementException {
        return terms.numberOf(goalAt(goal).type);
    }

    public int openGoals(int function) throws NoSuchElementException {
        functionAt(function);
        return docket.openOnesOf(function);
    }

    public int accept(int function) throws NoSuchElementException, IllegalStateException,
            UnsupportedOperationException {
        Function asked = functionAt(function);
        if (docket.hasAccepted(function) || docket.openOnesOf(function) > 0) {
            throw new IllegalStateException("the function is accepted, or has open goals");
        }
        graphs.begin(function, asked.arity);
        for (int i = 0; i < docket.goalCount; i++) {
            graphs.takeCallsOf(docket.goal(i));
        }
        if (!graphs.comeToAnEnd()) {
            throw new UnsupportedOperationException("the function does not come to an end");
        }
        docket.acceptedOnes |= 1 << function;
        return graphs.many;
    }

    public boolean isAccepted(int function) throws NoSuchElementException {
        functionAt(function);
        return docket.hasAccepted(function);
    }

    // Runs

    public int run(int node) throws IndexOutOfBoundsException, UnsupportedOperationException {
        int term = termAt(node);
        int mark = terms.mark();
        int value = typing.isOfData(term) ? machine.valueOf(term, true) : NONE;
        int answer = numberOfScratch(mark, value);
        stepsOfRuns += machine.taken;
        return answer;
    }

    public int runByClauses(int node) throws IndexOutOfBoundsException, UnsupportedOperationException {
        int term = termAt(node);
        int mark = terms.mark();
        int value = typing.isOfData(term) ? machine.valueOf(term, false) : NONE;
        return numberOfScratch(mark, value);
    }

    public int steps(int node) throws IndexOutOfBoundsException, UnsupportedOperationException {
        int term = termAt(node);
        int mark = terms.mark();
        int value = typing.isOfData(term) ? machine.valueOf(term, true) : NONE;
        numberOfScratch(mark, value);
        return machine.taken;
    }

    public int valueSize(int node) throws IndexOutOfBoundsException, UnsupportedOperationException {
        int term = termAt(node);
        int mark = terms.mark();
        int value = typing.isOfData(term) ? machine.valueOf(term, true) : NONE;
        int whole = terms.sizeOf(value);
        numberOfScratch(mark, value);
        // A value of a data type is constructors, each one but the first joined by an application.
        return (whole + 1) / 2;
    }

    public long allSteps() {
        return stepsOfRuns;
    }

    // Figures

    public float filledShare() throws ArithmeticException {
        int filled = docket.goalsThatAre(FILLED);
        int notSplit = filled + docket.goalsThatAre(OPEN);
        if (notSplit == 0) {
            throw new ArithmeticException("each goal is split");
        }
        return (float) filled / (float) notSplit;
    }

    public double meanSize() throws ArithmeticException {
        int filled = docket.goalsThatAre(FILLED);
        if (filled == 0) {
            throw new ArithmeticException("no goal is filled");
        }
        return (double) docket.sizeOfRightSides() / (double) filled;
    }

    public boolean isSound() {
        for (int i = 0; i < docket.goalCount; i++) {
            Goal one = docket.goal(i);
            if (one != null && one.state == FILLED && !typing.fits(one.context, one.right, one.type)) {
                return false;
            }
        }
        return !docket.anAcceptedOneIsOpen() && !docket.twoAreAlike();
    }

    // What the calls have in common

    private int layLeaf(int kind, int parameter) {
        if (laid >= nodes.length) {
            throw new IllegalStateException("there are 250 nodes");
        }
        nodes[laid] = terms.leaf(kind, parameter);
        laid++;
        return laid - 1;
    }

    private int layPair(int kind, int first, int second) {
        int one = termAt(first);
        int two = termAt(second);
        if (laid >= nodes.length || 1 + terms.sizeOf(one) + terms.sizeOf(two) > MOST_SIZE_OF_NODE) {
            throw new IllegalStateException("there are 250 nodes, or this one would be too large");
        }
        nodes[laid] = terms.pair(kind, one, two);
        laid++;
        return laid - 1;
    }

    private int termAt(int node) {
        if (node < 0 || node >= laid) {
            throw new IndexOutOfBoundsException("no such node");
        }
        return nodes[node];
    }

    private Function functionAt(int function) {
        Function found = docket.function(function);
        if (found == null) {
            throw new NoSuchElementException("no such function");
        }
        return found;
    }

    private Goal goalAt(int goal) {
        Goal found = docket.goal(goal);
        if (found == null) {
            throw new NoSuchElementException("no such goal");
        }
        return found;
    }

    private static void needPlace(Goal goal, int place) {
        if (place < 0 || place >= goal.context.many) {
            throw new IndexOutOfBoundsException("no such place in the context");
        }
    }

    private static void needOpen(Goal goal) {
        if (goal.state != OPEN) {
            throw new IllegalStateException("the goal is not open");
        }
    }

    private int numberOfScratch(int mark, int term) {
        int answer = terms.numberOf(term);
        terms.release(mark);
        if (term == NONE) {
            throw new UnsupportedOperationException("there is no such term");
        }
        return answer;
    }

    /**
     * All terms in rows, each known by its place; parts stand ahead of what they are parts of, and nothing in
     * the rows changes but at their end, so that a term can be a part of many.
     */
    private static final class Terms {
        // What stays is at most some 18,000 terms, and no call needs 13,000 more on its way.
        private static final int ROOM = 32768;

        private final int[] kind = new int[ROOM];
        private final int[] first = new int[ROOM];
        private final int[] second = new int[ROOM];
        private final int[] sizes = new int[ROOM];
        private final int[] numbers = new int[ROOM];
        private final int[] free = new int[ROOM];
        private final int[] calls = new int[ROOM];
        private final boolean[] loose = new boolean[ROOM];
        private final int[] moved = new int[ROOM];
        private int many;

        int leaf(int form, int parameter) {
            if (form < UNIVERSE || form > FUNCTION || many >= ROOM) {
                return NONE;
            }
            int now = many;
            many++;
            kind[now] = form;
            first[now] = parameter;
            second[now] = NONE;
            sizes[now] = 1;
            numbers[now] = NUMBER_OF_LEAF[form] + parameter;
            free[now] = form == VARIABLE ? parameter + 1 : 0;
            calls[now] = form == FUNCTION ? 1 << parameter : 0;
            loose[now] = false;
            return now;
        }

        /** No term of the document that is larger than a run may have is ever answered: such ones are not made. */
        int pair(int form, int one, int two) {
            if (form < FUNCTIONS || form > APPLICATION || many >= ROOM) {
                return NONE;
            }
            if (one < 0 || one >= many || two < 0 || two >= many || sizes[one] + sizes[two] >= MOST_SIZE_IN_RUN) {
                return NONE;
            }
            int now = many;
            many++;
            int row = form - FUNCTIONS;
            kind[now] = form;
            first[now] = one;
            second[now] = two;
            sizes[now] = 1 + sizes[one] + sizes[two];
            numbers[now] = (FACTOR_OF_FIRST[row] * numbers[one] + FACTOR_OF_SECOND[row] * numbers[two]
                    + ADDED_TO_PAIR[row]) % MODULUS;
            free[now] = Math.max(free[one], form == APPLICATION ? free[two] : free[two] - 1);
            calls[now] = calls[one] | calls[two];
            loose[now] = loose[one] || loose[two] || form == APPLICATION && kind[one] == LAMBDA;
            return now;
        }

        int kindOf(int term) {
            return term >= 0 && term < many ? kind[term] : NONE;
        }

        int firstOf(int term) {
            return term >= 0 && term < many ? first[term] : NONE;
        }

        int secondOf(int term) {
            return term >= 0 && term < many ? second[term] : NONE;
        }

        int sizeOf(int term) {
            return term >= 0 && term < many ? sizes[term] : NONE;
        }

        int numberOf(int term) {
            return term >= 0 && term < many ? numbers[term] : NONE;
        }

        /** One more than the greatest index that points out of the term, or 0. */
        int freeOf(int term) {
            return term >= 0 && term < many ? free[term] : NONE;
        }

        /** The functions that stand in the term, a bit for each. */
        int callsOf(int term) {
            return term >= 0 && term < many ? calls[term] : 0;
        }

        boolean isLoose(int term) {
            return term >= 0 && term < many && loose[term];
        }

        /** What is applied, one application below another. */
        int headOf(int term) {
            int now = term;
            for (int i = 0; i < MOST_SIZE_IN_RUN && now >= 0 && now < many && kind[now] == APPLICATION; i++) {
                now = first[now];
            }
            return now;
        }

        /** To how many arguments the head is applied. */
        int argumentsOf(int term) {
            int now = term;
            int found = 0;
            while (found < MOST_SIZE_IN_RUN && now >= 0 && now < many && kind[now] == APPLICATION) {
                now = first[now];
                found++;
            }
            return found;
        }

        int mark() {
            return many;
        }

        void release(int mark) {
            if (mark >= 0 && mark < many) {
                many = mark;
            }
        }

        /** Drops what is behind the mark, but for the parts of this one term, which move up to the mark. */
        int keep(int mark, int term) {
            if (mark < 0 || term < mark || term >= many) {
                release(mark);
                return term;
            }
            for (int i = mark; i <= term; i++) {
                moved[i] = NONE;
            }
            moved[term] = term;
            for (int i = term; i >= mark; i--) {
                if (moved[i] != NONE && kind[i] >= FUNCTIONS) {
                    keepPart(first[i]);
                    keepPart(second[i]);
                }
            }
            many = mark;
            for (int i = mark; i <= term; i++) {
                if (moved[i] != NONE) {
                    slide(i, mark);
                }
            }
            return many - 1;
        }

        private void keepPart(int part) {
            if (part >= 0 && part < ROOM) {
                moved[part] = part;
            }
        }

        private int placeNow(int part, int mark) {
            return part >= mark && part < ROOM ? moved[part] : part;
        }

        private void slide(int from, int mark) {
            int to = many;
            many++;
            moved[from] = to;
            boolean isPair = kind[from] >= FUNCTIONS;
            first[to] = isPair ? placeNow(first[from], mark) : first[from];
            second[to] = isPair ? placeNow(second[from], mark) : second[from];
            kind[to] = kind[from];
            sizes[to] = sizes[from];
            numbers[to] = numbers[from];
            free[to] = free[from];
            calls[to] = calls[from];
            loose[to] = loose[from];
        }
    }

    /** What goes through a term part by part; a term of size 200 is at most a hundred parts deep. */
    private static final class Moves {

        /** The term with the variables from this depth on moved by so many. */
        private static int lift(Terms terms, int term, int by, int depth) {
            if (terms.freeOf(term) <= depth || by == 0) {
                return term;
            }
            int kind = terms.kindOf(term);
            if (kind == VARIABLE) {
                return terms.leaf(VARIABLE, terms.firstOf(term) + by);
            }
            int one = lift(terms, terms.firstOf(term), by, depth);
            if (one == NONE) {
                return NONE;
            }
            int two = lift(terms, terms.secondOf(term), by, kind == APPLICATION ? depth : depth + 1);
            return terms.pair(kind, one, two);
        }

        /** The term with the value put in for the variable of this depth; those around it move by one. */
        private static int put(Terms terms, int term, int value, int depth) {
            if (terms.freeOf(term) <= depth) {
                return term;
            }
            int kind = terms.kindOf(term);
            if (kind == VARIABLE) {
                int index = terms.firstOf(term);
                return index == depth ? lift(terms, value, depth, 0) : terms.leaf(VARIABLE, index - 1);
            }
            int one = put(terms, terms.firstOf(term), value, depth);
            if (one == NONE) {
                return NONE;
            }
            int two = put(terms, terms.secondOf(term), value, kind == APPLICATION ? depth : depth + 1);
            return terms.pair(kind, one, two);
        }

        /** A term that is not there is the same as none. */
        private static boolean same(Terms terms, int one, int two) {
            int kind = terms.kindOf(one);
            if (kind == NONE || kind != terms.kindOf(two) || terms.numberOf(one) != terms.numberOf(two)
                    || terms.sizeOf(one) != terms.sizeOf(two)) {
                return false;
            }
            if (one == two) {
                return true;
            }
            if (kind < FUNCTIONS) {
                return terms.firstOf(one) == terms.firstOf(two);
            }
            return same(terms, terms.firstOf(one), terms.firstOf(two))
                    && same(terms, terms.secondOf(one), terms.secondOf(two));
        }

        /** Whether this variable stands in the pattern. */
        private static boolean holds(Terms terms, int pattern, int index) {
            int kind = terms.kindOf(pattern);
            if (kind == VARIABLE) {
                return terms.firstOf(pattern) == index;
            }
            return kind == APPLICATION && (holds(terms, terms.firstOf(pattern), index)
                    || holds(terms, terms.secondOf(pattern), index));
        }

        /** Whether some value could be alike to both patterns; no variable stands twice in patterns. */
        private static boolean meet(Terms terms, int one, int two) {
            int kind = terms.kindOf(one);
            int other = terms.kindOf(two);
            if (kind == VARIABLE || other == VARIABLE) {
                return true;
            }
            if (kind == CONSTRUCTOR && other == CONSTRUCTOR) {
                return terms.firstOf(one) == terms.firstOf(two);
            }
            return kind == APPLICATION && other == APPLICATION
                    && meet(terms, terms.firstOf(one), terms.firstOf(two))
                    && meet(terms, terms.secondOf(one), terms.secondOf(two));
        }
    }

    /** Finds normal forms. */
    private static final class Forms {
        private final Terms terms;
        private final int[] path = new int[MOST_SIZE_ON_THE_WAY];
        private int depth;

        Forms(Terms terms) {
            this.terms = terms;
        }

        /** The normal form, or none; what was made on the way is dropped again. */
        int formOf(int term) {
            int mark = terms.mark();
            int now = term;
            for (int taken = 0; taken <= MOST_STEPS_TO_FORM; taken++) {
                if (now == NONE || terms.sizeOf(now) > MOST_SIZE_ON_THE_WAY) {
                    break;
                }
                if (!terms.isLoose(now)) {
                    return terms.keep(mark, now);
                }
                int place = goDown(now);
                now = goUp(Moves.put(terms, terms.secondOf(terms.firstOf(place)), terms.secondOf(place), 0));
            }
            terms.release(mark);
            return NONE;
        }

        /** To the first place where a step can be made; the way to it is kept. */
        private int goDown(int term) {
            int now = term;
            depth = 0;
            while (terms.kindOf(terms.firstOf(now)) != LAMBDA || terms.kindOf(now) != APPLICATION) {
                if (depth >= path.length) {
                    return NONE;
                }
                path[depth] = now;
                depth++;
                now = terms.isLoose(terms.firstOf(now)) ? terms.firstOf(now) : terms.secondOf(now);
            }
            return now;
        }

        /** Back along the way, with what was made in the place of the step. */
        private int goUp(int made) {
            int now = made;
            for (int i = depth - 1; i >= 0 && now != NONE; i--) {
                int above = path[i];
                boolean isFirst = terms.isLoose(terms.firstOf(above));
                now = isFirst ? terms.pair(terms.kindOf(above), now, terms.secondOf(above))
                        : terms.pair(terms.kindOf(above), terms.firstOf(above), now);
            }
            return now;
        }
    }

    /** A context: a row of types, the innermost last. */
    private static final class Telescope {
        private final int[] types;
        private int many;

        Telescope(int room) {
            types = new int[Math.max(room, 0)];
        }

        boolean push(int type) {
            if (many >= types.length) {
                return false;
            }
            types[many] = type;
            many++;
            return true;
        }

        void pop() {
            if (many > 0) {
                many--;
            }
        }

        int typeAt(int place) {
            return place >= 0 && place < many ? types[place] : NONE;
        }

        void become(Telescope other) {
            many = 0;
            for (int i = 0; i < other.many; i++) {
                push(other.types[i]);
            }
        }
    }

    /** The data types and their constructors. */
    private static final class Signature {
        private final Terms terms;
        private final boolean[] splitBy = new boolean[MOST_DATA];
        private final int[] owners = new int[MOST_CONSTRUCTORS];
        private final int[] partCounts = new int[MOST_CONSTRUCTORS];
        private final int[] parts = new int[MOST_CONSTRUCTORS * MOST_PARTS];
        private final int[] types = new int[MOST_CONSTRUCTORS];
        private final int[] ranks = new int[MOST_CONSTRUCTORS];
        private final int[] constructorsOfData = new int[MOST_DATA];
        private int dataCount;
        private int constructorCount;

        Signature(Terms terms) {
            this.terms = terms;
        }

        boolean hasData(int data) {
            return data >= 0 && data < dataCount;
        }

        boolean hasConstructor(int constructor) {
            return constructor >= 0 && constructor < constructorCount;
        }

        boolean wasSplit(int data) {
            return hasData(data) && splitBy[data];
        }

        void noteSplit(int data) {
            if (hasData(data)) {
                splitBy[data] = true;
            }
        }

        int enterData() {
            dataCount++;
            return dataCount - 1;
        }

        int enterConstructor(int data, int many, int first, int second, int third) {
            int now = constructorCount;
            constructorCount++;
            owners[now] = data;
            partCounts[now] = many;
            parts[now * MOST_PARTS] = first;
            parts[now * MOST_PARTS + 1] = second;
            parts[now * MOST_PARTS + 2] = third;
            int type = terms.leaf(DATA, data);
            for (int i = many - 1; i >= 0; i--) {
                type = terms.pair(FUNCTIONS, terms.leaf(DATA, parts[now * MOST_PARTS + i]), type);
            }
            types[now] = type;
            ranks[now] = constructorsOfData[data];
            constructorsOfData[data]++;
            return now;
        }

        int ownerOf(int constructor) {
            return hasConstructor(constructor) ? owners[constructor] : NONE;
        }

        int partsOf(int constructor) {
            return hasConstructor(constructor) ? partCounts[constructor] : NONE;
        }

        int partOf(int constructor, int place) {
            return hasConstructor(constructor) && place >= 0 && place < MOST_PARTS
                    ? parts[constructor * MOST_PARTS + place] : NONE;
        }

        int typeOfConstructor(int constructor) {
            return hasConstructor(constructor) ? types[constructor] : NONE;
        }

        /** How many constructors of its data type have a lower number. */
        int rankOf(int constructor) {
            return constructor >= 0 && constructor < constructorCount ? ranks[constructor] : NONE;
        }

        int constructorsOf(int data) {
            return hasData(data) ? constructorsOfData[data] : 0;
        }
    }

    /** A function as it was declared. */
    private static final class Function {
        private final int type;
        private final int arity;
        private final int firstGoal;

        Function(int type, int arity, int firstGoal) {
            this.type = type;
            this.arity = arity;
            this.firstGoal = firstGoal;
        }
    }

    /** A goal of a function. */
    private static final class Goal {
        private final int function;
        private final Telescope context;
        private final int type;
        private final int[] patterns;
        private char state;
        private int right;
        private int place;
        private int firstChild;

        Goal(int function, Telescope context, int type, int[] patterns) {
            this.function = function;
            this.context = context;
            this.type = type;
            this.patterns = patterns;
            state = OPEN;
            right = NONE;
            place = NONE;
            firstChild = NONE;
        }

        void fillWith(int term) {
            state = FILLED;
            right = term;
        }

        void open() {
            state = OPEN;
            right = NONE;
        }

        void splitInto(int variable, int child) {
            state = SPLIT;
            place = variable;
            firstChild = child;
        }
    }

    /** The functions and their goals. */
    private static final class Docket {
        private final Terms terms;
        private final Forms forms;
        private final Signature signature;
        private final Function[] declared = new Function[MOST_FUNCTIONS];
        private final Goal[] goals = new Goal[MOST_GOALS];
        private int functionCount;
        private int goalCount;
        private int acceptedOnes;

        Docket(Terms terms, Forms forms, Signature signature) {
            this.terms = terms;
            this.forms = forms;
            this.signature = signature;
        }

        Function function(int number) {
            return number >= 0 && number < functionCount ? declared[number] : null;
        }

        Goal goal(int number) {
            return number >= 0 && number < goalCount ? goals[number] : null;
        }

        int typeOfFunction(int number) {
            Function found = function(number);
            return found == null ? NONE : found.type;
        }

        boolean hasAccepted(int function) {
            return (acceptedOnes >> function & 1) != 0;
        }

        /** How many domains stand one within the codomain of another, ahead of what is no type of functions. */
        int domainsOf(int type) {
            int now = type;
            int found = 0;
            while (terms.kindOf(now) == FUNCTIONS && found <= MOST_ARGUMENTS) {
                now = terms.secondOf(now);
                found++;
            }
            return found;
        }

        int enterFunction(int type, int arity) {
            Telescope context = new Telescope(arity);
            int[] patterns = new int[arity];
            int result = type;
            for (int i = 0; i < arity; i++) {
                context.push(terms.firstOf(result));
                patterns[i] = terms.leaf(VARIABLE, arity - 1 - i);
                result = terms.secondOf(result);
            }
            declared[functionCount] = new Function(type, arity, goalCount);
            goals[goalCount] = new Goal(functionCount, context, result, patterns);
            goalCount++;
            functionCount++;
            return functionCount - 1;
        }

        /** Never so for a variable whose type is no data type: there is nothing to count. */
        boolean splitIsTooMuch(Goal goal, int place) {
            int type = goal.context.typeAt(place);
            if (terms.kindOf(type) != DATA) {
                return false;
            }
            int data = terms.firstOf(type);
            for (int i = 0; i < signature.constructorCount; i++) {
                if (signature.ownerOf(i) == data
                        && goal.context.many - 1 + signature.partsOf(i) > MOST_IN_CONTEXT) {
                    return true;
                }
            }
            return goalCount + signature.constructorsOf(data) > MOST_GOALS;
        }

        /** How many goals are made, or none if that cannot be. */
        int splitBy(Goal goal, int place) {
            int type = goal.context.typeAt(place);
            if (terms.kindOf(type) != DATA) {
                return NONE;
            }
            int data = terms.firstOf(type);
            int mark = terms.mark();
            int made = 0;
            for (int i = 0; i < signature.constructorCount; i++) {
                if (signature.ownerOf(i) == data && goalCount + made < goals.length) {
                    Goal child = childOf(goal, place, i);
                    if (child == null) {
                        terms.release(mark);
                        return NONE;
                    }
                    // Behind the last goal until all are there: a split that throws changes nothing.
                    goals[goalCount + made] = child;
                    made++;
                }
            }
            goal.splitInto(place, goalCount);
            goalCount += made;
            signature.noteSplit(data);
            return made;
        }

        private Goal childOf(Goal goal, int place, int constructor) {
            int many = signature.partsOf(constructor);
            int wasMany = goal.context.many;
            Telescope context = new Telescope(wasMany - 1 + many);
            for (int i = 0; i < place; i++) {
                context.push(goal.context.typeAt(i));
            }
            int value = terms.leaf(CONSTRUCTOR, constructor);
            for (int i = 0; i < many; i++) {
                context.push(terms.leaf(DATA, signature.partOf(constructor, i)));
                value = terms.pair(APPLICATION, value, terms.leaf(VARIABLE, many - 1 - i));
            }
            for (int i = place + 1; i < wasMany; i++) {
                int type = formWithValue(goal.context.typeAt(i), value, many, i - 1 - place);
                if (type == NONE) {
                    return null;
                }
                context.push(type);
            }
            int type = formWithValue(goal.type, value, many, wasMany - 1 - place);
            if (type == NONE) {
                return null;
            }
            int[] patterns = new int[goal.patterns.length];
            for (int i = 0; i < patterns.length; i++) {
                int mark = terms.mark();
                patterns[i] = terms.keep(mark, withValue(goal.patterns[i], value, many, wasMany - 1 - place));
            }
            return new Goal(goal.function, context, type, patterns);
        }

        private int formWithValue(int term, int value, int many, int index) {
            int mark = terms.mark();
            return terms.keep(mark, forms.formOf(withValue(term, value, many, index)));
        }

        /** The term with the value for the variable of this index, where so many variables stand in its place. */
        private int withValue(int term, int value, int many, int index) {
            return Moves.put(terms, Moves.lift(terms, term, many, index + 1), value, index);
        }

        int innermostThatFits(Goal goal) {
            int many = goal.context.many;
            int mark = terms.mark();
            int found = NONE;
            for (int i = many - 1; i >= 0 && found == NONE; i--) {
                if (Moves.same(terms, Moves.lift(terms, goal.context.typeAt(i), many - i, 0), goal.type)) {
                    found = i;
                }
            }
            terms.release(mark);
            return found;
        }

        int openOnesOf(int function) {
            int found = 0;
            for (int i = 0; i < goalCount; i++) {
                Goal one = goal(i);
                if (one != null && one.function == function && one.state == OPEN) {
                    found++;
                }
            }
            return found;
        }

        int goalsThatAre(char state) {
            int found = 0;
            for (int i = 0; i < goalCount; i++) {
                Goal one = goal(i);
                if (one != null && one.state == state) {
                    found++;
                }
            }
            return found;
        }

        int sizeOfRightSides() {
            int sum = 0;
            for (int i = 0; i < goalCount; i++) {
                Goal one = goal(i);
                if (one != null && one.state == FILLED) {
                    sum += terms.sizeOf(one.right);
                }
            }
            return sum;
        }

        boolean anAcceptedOneIsOpen() {
            for (int i = 0; i < functionCount; i++) {
                if (hasAccepted(i) && openOnesOf(i) > 0) {
                    return true;
                }
            }
            return false;
        }

        /** Whether one row of values could be alike to two goals of a function that are not split. */
        boolean twoAreAlike() {
            for (int i = 0; i < goalCount; i++) {
                for (int j = i + 1; j < goalCount; j++) {
                    if (areAlike(goal(i), goal(j))) {
                        return true;
                    }
                }
            }
            return false;
        }

        private boolean areAlike(Goal one, Goal two) {
            if (one == null || two == null || one.function != two.function) {
                return false;
            }
            if (one.state == SPLIT || two.state == SPLIT) {
                return false;
            }
            for (int i = 0; i < one.patterns.length && i < two.patterns.length; i++) {
                if (!Moves.meet(terms, one.patterns[i], two.patterns[i])) {
                    return false;
                }
            }
            return true;
        }
    }

    /** Finds the types of terms. */
    private static final class Typing {
        private final Terms terms;
        private final Forms forms;
        private final Signature signature;
        private final Docket docket;
        private final Telescope nothing = new Telescope(0);
        private final Telescope around = new Telescope(MOST_IN_CONTEXT + MOST_SIZE_OF_NODE);

        Typing(Terms terms, Forms forms, Signature signature, Docket docket) {
            this.terms = terms;
            this.forms = forms;
            this.signature = signature;
            this.docket = docket;
        }

        /** The level of a closed term, or none. */
        int levelOf(int term) {
            int mark = terms.mark();
            around.become(nothing);
            int form = forms.formOf(find(this, term));
            int found = terms.kindOf(form) == UNIVERSE ? terms.firstOf(form) : NONE;
            terms.release(mark);
            return found;
        }

        boolean isOfData(int term) {
            int mark = terms.mark();
            around.become(nothing);
            int kind = terms.kindOf(forms.formOf(find(this, term)));
            terms.release(mark);
            return kind == DATA;
        }

        /** Whether the term has this type, which is a normal form, in the context. */
        boolean fits(Telescope context, int term, int type) {
            int mark = terms.mark();
            around.become(context);
            boolean fits = Moves.same(terms, forms.formOf(find(this, term)), type);
            terms.release(mark);
            return fits;
        }

        /** The normal form of the type of a closed term, or none. */
        int formOf(int term) {
            int mark = terms.mark();
            around.become(nothing);
            return terms.keep(mark, forms.formOf(find(this, term)));
        }

        /**
         * The type as it comes, or none. Types that come to more than the size of a run are given up here: as a
         * normal form is asked of all that is found, or of what it is a part of, they would be none in the end.
         */
        private static int find(Typing in, int term) {
            Terms terms = in.terms;
            int parameter = terms.firstOf(term);
            switch (terms.kindOf(term)) {
                case UNIVERSE:
                    return parameter < MOST_LEVEL ? terms.leaf(UNIVERSE, parameter + 1) : NONE;
                case VARIABLE:
                    return Moves.lift(terms, in.around.typeAt(in.around.many - 1 - parameter), parameter + 1, 0);
                case DATA:
                    return terms.leaf(UNIVERSE, 0);
                case CONSTRUCTOR:
                    return in.signature.typeOfConstructor(parameter);
                case FUNCTION:
                    return in.docket.typeOfFunction(parameter);
                case FUNCTIONS:
                    return ofFunctions(in, term);
                case LAMBDA:
                    return ofLambda(in, term);
                case APPLICATION:
                    return ofApplication(in, term);
                default:
                    return NONE;
            }
        }

        private static int ofFunctions(Typing in, int term) {
            Terms terms = in.terms;
            int domain = terms.firstOf(term);
            int above = in.forms.formOf(find(in, domain));
            if (terms.kindOf(above) != UNIVERSE || !in.around.push(domain)) {
                return NONE;
            }
            int below = in.forms.formOf(find(in, terms.secondOf(term)));
            in.around.pop();
            if (terms.kindOf(below) != UNIVERSE) {
                return NONE;
            }
            return terms.leaf(UNIVERSE, Math.max(terms.firstOf(above), terms.firstOf(below)));
        }

        private static int ofLambda(Typing in, int term) {
            Terms terms = in.terms;
            int domain = terms.firstOf(term);
            int above = in.forms.formOf(find(in, domain));
            if (terms.kindOf(above) != UNIVERSE || !in.around.push(domain)) {
                return NONE;
            }
            int below = find(in, terms.secondOf(term));
            in.around.pop();
            return terms.pair(FUNCTIONS, domain, below);
        }

        private static int ofApplication(Typing in, int term) {
            Terms terms = in.terms;
            int argument = terms.secondOf(term);
            int type = in.forms.formOf(find(in, terms.firstOf(term)));
            if (terms.kindOf(type) != FUNCTIONS) {
                return NONE;
            }
            int mark = terms.mark();
            boolean fits = Moves.same(terms, in.forms.formOf(find(in, argument)), terms.firstOf(type));
            terms.release(mark);
            return fits ? Moves.put(terms, terms.secondOf(type), argument, 0) : NONE;
        }
    }

    /**
     * The graphs of the calls of a function. A graph is an int: the bit 4 * pattern + argument is set if there is
     * a sign, and the bit 16 places above it too if this is '<'.
     */
    private static final class Graphs {
        private static final int LESS = 16;

        private final Terms terms;
        private final int[] found = new int[MOST_GRAPHS];
        private int function;
        private int arity;
        private int many;
        private boolean tooMany;

        Graphs(Terms terms) {
            this.terms = terms;
        }

        void begin(int of, int arguments) {
            function = of;
            arity = arguments;
            many = 0;
            tooMany = false;
        }

        void takeCallsOf(Goal goal) {
            if (goal != null && goal.function == function && goal.state == FILLED) {
                visit(this, goal, goal.right, 0);
            }
        }

        private static void visit(Graphs in, Goal goal, int term, int depth) {
            Terms terms = in.terms;
            if ((terms.callsOf(term) >> in.function & 1) == 0) {
                return;
            }
            int given = terms.argumentsOf(term);
            int head = term;
            for (int i = 0; i < given; i++) {
                visit(in, goal, terms.secondOf(head), depth);
                head = terms.firstOf(head);
            }
            if (terms.kindOf(head) >= FUNCTIONS) {
                visit(in, goal, terms.firstOf(head), depth);
                visit(in, goal, terms.secondOf(head), depth + 1);
            } else if (terms.kindOf(head) == FUNCTION && terms.firstOf(head) == in.function) {
                in.add(in.graphOf(goal, term, depth));
            }
        }

        private int graphOf(Goal goal, int call, int depth) {
            int graph = 0;
            int now = call;
            for (int i = terms.argumentsOf(call) - 1; i >= 0; i--) {
                int argument = terms.secondOf(now);
                if (i < arity && terms.kindOf(argument) == VARIABLE) {
                    graph |= signsOf(goal, terms.firstOf(argument) - depth, i);
                }
                now = terms.firstOf(now);
            }
            return graph;
        }

        /** Those of one argument of a call, which is this variable of the context. */
        private int signsOf(Goal goal, int index, int argument) {
            int signs = 0;
            for (int i = 0; i < arity && i < goal.patterns.length; i++) {
                if (index >= 0 && Moves.holds(terms, goal.patterns[i], index)) {
                    boolean isWhole = terms.kindOf(goal.patterns[i]) == VARIABLE;
                    signs |= (isWhole ? 1 : 1 | 1 << LESS) << 4 * i + argument;
                }
            }
            return signs;
        }

        private void add(int graph) {
            for (int i = 0; i < many; i++) {
                if (found[i] == graph) {
                    return;
                }
            }
            if (many >= found.length) {
                tooMany = true;
                return;
            }
            found[many] = graph;
            many++;
        }

        /** Each graph of many calls is one of all but the last of them with the one of the last behind it. */
        boolean comeToAnEnd() {
            int ofOneCall = many;
            for (int i = 0; i < MOST_GRAPHS && i < many && !tooMany; i++) {
                for (int j = 0; j < ofOneCall && !tooMany; j++) {
                    add(behind(found[i], found[j]));
                }
            }
            for (int i = 0; i < many && !tooMany; i++) {
                if (behind(found[i], found[i]) == found[i] && !hasLess(found[i])) {
                    return false;
                }
            }
            return !tooMany;
        }

        private int behind(int one, int two) {
            int graph = 0;
            for (int i = 0; i < arity; i++) {
                for (int j = 0; j < arity; j++) {
                    for (int k = 0; k < arity; k++) {
                        int left = one >>> 4 * i + j;
                        int right = two >>> 4 * j + k;
                        if ((left & right & 1) != 0) {
                            int less = (left | right) >>> LESS & 1;
                            graph |= (1 | less << LESS) << 4 * i + k;
                        }
                    }
                }
            }
            return graph;
        }

        private boolean hasLess(int graph) {
            for (int i = 0; i < arity; i++) {
                if ((graph >>> LESS + 5 * i & 1) != 0) {
                    return true;
                }
            }
            return false;
        }
    }

    /** Runs closed terms. */
    private static final class Machine {
        // Forty steps, each with a term of size 200, which is at most a hundred parts deep.
        private static final int MOST_WAITING = 4200;
        private static final int MOST_TURNS = 1000000;

        private final Terms terms;
        private final Signature signature;
        private final Docket docket;
        private final int[] waiting = new int[MOST_WAITING];
        private final boolean[] waitsForArgument = new boolean[MOST_WAITING];
        private final int[] given = new int[MOST_ARGUMENTS];
        private final int[] values = new int[MOST_IN_CONTEXT];
        private int valueCount;
        private int depth;
        private int taken;
        private boolean wasStep;
        private boolean bySplits;

        Machine(Terms terms, Signature signature, Docket docket) {
            this.terms = terms;
            this.signature = signature;
            this.docket = docket;
        }

        /** The value, or none if the term cannot be run or the run fails; the steps are those that were taken. */
        int valueOf(int term, boolean alongSplits) {
            if ((terms.callsOf(term) & ~docket.acceptedOnes) != 0) {
                return NONE;
            }
            bySplits = alongSplits;
            depth = 0;
            taken = 0;
            int now = term;
            boolean isValue = false;
            for (int turn = 0; turn < MOST_TURNS && now != NONE; turn++) {
                if (!isValue && terms.kindOf(now) == APPLICATION) {
                    push(terms.secondOf(now), false);
                    now = depth < MOST_WAITING ? terms.firstOf(now) : NONE;
                } else if (depth == 0) {
                    return now;
                } else if (waitsForArgument[depth - 1]) {
                    depth--;
                    now = applied(waiting[depth], now);
                    isValue = !wasStep;
                } else {
                    int argument = waiting[depth - 1];
                    depth--;
                    push(now, true);
                    now = argument;
                    isValue = false;
                }
            }
            return NONE;
        }

        private void push(int term, boolean isFunction) {
            if (depth < MOST_WAITING) {
                waiting[depth] = term;
                waitsForArgument[depth] = isFunction;
                depth++;
            }
        }

        /** What a value comes to with one more argument: another value, or a term that is still to be run. */
        private int applied(int function, int argument) {
            wasStep = terms.kindOf(function) == LAMBDA;
            if (wasStep) {
                return takeStep() ? Moves.put(terms, terms.secondOf(function), argument, 0) : NONE;
            }
            int whole = terms.pair(APPLICATION, function, argument);
            int head = terms.headOf(whole);
            int many = terms.argumentsOf(whole);
            if (terms.kindOf(head) == CONSTRUCTOR) {
                return many <= signature.partsOf(terms.firstOf(head)) ? whole : NONE;
            }
            Function called = terms.kindOf(head) == FUNCTION ? docket.function(terms.firstOf(head)) : null;
            if (called == null || many > called.arity) {
                return NONE;
            }
            if (many < called.arity) {
                return whole;
            }
            wasStep = true;
            return takeStep() ? rightSideFor(called, terms.firstOf(head), whole) : NONE;
        }

        private boolean takeStep() {
            taken++;
            return taken <= MOST_STEPS_OF_RUN;
        }

        private int rightSideFor(Function called, int number, int whole) {
            int now = whole;
            for (int i = called.arity - 1; i >= 0 && i < MOST_ARGUMENTS; i--) {
                given[i] = terms.secondOf(now);
                now = terms.firstOf(now);
            }
            Goal clause = bySplits ? clauseBySplits(called) : clauseByOrder(number);
            return clause == null ? NONE : withValues(this, clause.right, 0);
        }

        private Goal clauseBySplits(Function called) {
            valueCount = called.arity;
            for (int i = 0; i < valueCount && i < MOST_ARGUMENTS; i++) {
                values[i] = given[i];
            }
            Goal goal = docket.goal(called.firstGoal);
            for (int turn = 0; turn < MOST_GOALS && goal != null; turn++) {
                if (goal.state != SPLIT) {
                    return goal.state == FILLED ? goal : null;
                }
                goal = goDown(goal);
            }
            return null;
        }

        /** The goal of the constructor that the value has, whose arguments come in the place of the value. */
        private Goal goDown(Goal goal) {
            int place = goal.place;
            if (place < 0 || place >= valueCount) {
                return null;
            }
            int value = values[place];
            int head = terms.headOf(value);
            int many = terms.argumentsOf(value);
            int after = valueCount - 1 + many;
            if (terms.kindOf(head) != CONSTRUCTOR || after > MOST_IN_CONTEXT) {
                return null;
            }
            System.arraycopy(values, place + 1, values, place + many, valueCount - place - 1);
            for (int i = many - 1; i >= 0; i--) {
                values[place + i] = terms.secondOf(value);
                value = terms.firstOf(value);
            }
            valueCount = after;
            return docket.goal(goal.firstChild + signature.rankOf(terms.firstOf(head)));
        }

        private Goal clauseByOrder(int function) {
            for (int i = 0; i < docket.goalCount; i++) {
                Goal goal = docket.goal(i);
                if (goal != null && goal.function == function && goal.state == FILLED) {
                    valueCount = goal.context.many;
                    boolean isAlike = true;
                    for (int j = 0; j < goal.patterns.length && j < MOST_ARGUMENTS && isAlike; j++) {
                        isAlike = match(this, goal.patterns[j], given[j]);
                    }
                    if (isAlike) {
                        return goal;
                    }
                }
            }
            return null;
        }

        private static boolean match(Machine in, int pattern, int value) {
            Terms terms = in.terms;
            int kind = terms.kindOf(pattern);
            if (kind == VARIABLE) {
                int place = in.valueCount - 1 - terms.firstOf(pattern);
                if (place < 0 || place >= MOST_IN_CONTEXT) {
                    return false;
                }
                in.values[place] = value;
                return true;
            }
            if (kind != terms.kindOf(value)) {
                return false;
            }
            if (kind == APPLICATION) {
                return match(in, terms.firstOf(pattern), terms.firstOf(value))
                        && match(in, terms.secondOf(pattern), terms.secondOf(value));
            }
            return terms.firstOf(pattern) == terms.firstOf(value);
        }

        /** The right side with the values, which are closed, so that they need not be moved. */
        private static int withValues(Machine in, int term, int depth) {
            Terms terms = in.terms;
            if (terms.freeOf(term) <= depth) {
                return term;
            }
            int kind = terms.kindOf(term);
            if (kind == VARIABLE) {
                int place = in.valueCount - 1 - (terms.firstOf(term) - depth);
                return place >= 0 && place < in.valueCount ? in.values[place] : NONE;
            }
            int one = withValues(in, terms.firstOf(term), depth);
            if (one == NONE) {
                return NONE;
            }
            int two = withValues(in, terms.secondOf(term), kind == APPLICATION ? depth : depth + 1);
            return terms.pair(kind, one, two);
        }
    }
}
