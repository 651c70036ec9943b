/** The bounds that the document names for promises 30 to 37, each sentence with its last value and the first beyond. */
public final class RunBoundsTest {
    private static final Class<IndexOutOfBoundsException> NO_NODE = IndexOutOfBoundsException.class;
    private static final Class<UnsupportedOperationException> FAILS = UnsupportedOperationException.class;
    private static final Class<ArithmeticException> NONE = ArithmeticException.class;

    private static void comes(Bench bench, String what, int node, int value, int constructors, int steps) {
        TelescopeCourt court = bench.court;
        long before = court.allSteps();
        Due.is(what + ", by clauses", court.runByClauses(node), value);
        Due.is(what + ", steps", court.steps(node), steps);
        Due.is(what + ", constructors", court.valueSize(node), constructors);
        Due.is(what + ", no steps of run()", court.allSteps(), before);
        Due.is(what + ", run", court.run(node), value);
        Due.is(what + ", steps of run()", court.allSteps(), before + steps);
    }

    private static void fails(TelescopeCourt court, String what, Class<? extends RuntimeException> why, int node) {
        long before = court.allSteps();
        Due.thrown(what + ", run", why, () -> court.run(node));
        Due.thrown(what + ", by clauses", why, () -> court.runByClauses(node));
        Due.thrown(what + ", steps", why, () -> court.steps(node));
        Due.thrown(what + ", constructors", why, () -> court.valueSize(node));
        Due.is(what + ", all steps", court.allSteps(), before);
    }

    /** "if there is no such node": the last one, and those beyond. */
    private static void nodes() {
        Bench bench = Bench.withNumbers();
        TelescopeCourt court = bench.court;
        bench.layUpTo(249);
        fails(court, "no node yet", NO_NODE, 249);
        court.constructorNode(0);
        comes(bench, "the last node", 249, 201, 1, 0);
        for (int beyond : new int[] {-1, 250, 65536, Integer.MIN_VALUE, Integer.MAX_VALUE}) {
            fails(court, "no node " + beyond, NO_NODE, beyond);
        }
        fails(court, "a type", FAILS, 0);
    }

    /** "A closed term whose type has a data type as its normal form": it may have none. */
    private static void typesOfRuns() {
        for (int calls = 4; calls <= 5; calls++) {
            Bench bench = Bench.withNumbers();
            TelescopeCourt court = bench.court;
            // (f : u0 -> u0) f d -> f d -> f d, where f takes two steps and one for each call within.
            court.declare(bench.term("{{u0 u0} (v0 d0) (v1 d0) (v2 d0)}"));
            court.auto(0);
            court.accept(0);
            String within = "v1";
            for (int i = 0; i < calls; i++) {
                within = "(v0 " + within + ")";
            }
            int term = bench.term("(f0 [u0 ([{u0 u0} " + within + "] [u0 v0])] c0 (c1 c0))");
            if (calls == 4) {
                comes(bench, "a type after 18 steps", term, court.number(bench.number(1)), 2, 1);
            } else {
                fails(court, "a type after 21 steps", FAILS, term);
            }
        }
    }

    /** Types that are no data types, though their values would be. */
    private static void noDataTypes() {
        Bench bench = Bench.withNumbers();
        TelescopeCourt court = bench.court;
        court.declare(bench.term("{d0 u0}"));
        court.fill(0, bench.term("d0"));
        court.accept(0);
        fails(court, "a call that gives a type", FAILS, bench.term("(f0 c0)"));
        court.declare(bench.term("{d0 (f0 v0) (f0 v1)}"));
        court.auto(1);
        court.accept(1);
        fails(court, "a function over such types", FAILS, bench.term("(f1 c0)"));
        fails(court, "a number is of no such type", FAILS, bench.term("(f1 c0 c0)"));
        fails(court, "a universe", FAILS, bench.term("u0"));
        fails(court, "a type of functions", FAILS, bench.term("{d0 d0}"));
        fails(court, "a function", FAILS, bench.term("f1"));
        fails(court, "a constructor that lacks its argument", FAILS, bench.term("c1"));
        fails(court, "a variable", FAILS, bench.term("v0"));
        fails(court, "the last universe", FAILS, bench.term("u3"));
        fails(court, "an open argument", FAILS, bench.term("(c1 v0)"));
        comes(bench, "a type by a step", bench.term("([u0 c0] (f0 c0))"), 201, 1, 2);
    }

    /** "which calls accepted functions alone": one of two is not, wherever it stands. */
    private static void callsOfRuns() {
        Bench bench = Bench.withNumbers();
        TelescopeCourt court = bench.court;
        bench.declareOverNumbers(1);
        bench.declareOverNumbers(1);
        int both = bench.term("(f0 (f1 c0))");
        int inDomain = bench.term("([{d0 d0} c0] f1)");
        int inBody = bench.term("([{d0 d0} c0] [d0 (f1 v0)])");
        fails(court, "none is accepted", FAILS, both);
        court.auto(0);
        court.accept(0);
        fails(court, "one is accepted", FAILS, both);
        fails(court, "an argument", FAILS, inDomain);
        fails(court, "a body that is not run", FAILS, inBody);
        court.auto(1);
        fails(court, "filled, not accepted", FAILS, both);
        court.accept(1);
        comes(bench, "both are accepted", both, 201, 1, 2);
        comes(bench, "an argument now", inDomain, 201, 1, 1);
        comes(bench, "a body now", inBody, 201, 1, 1);
    }

    /** A goal that is filled has a context; what is asked then is closed, or has no type, all the same. */
    private static void closedTermsBehindContexts() {
        Bench bench = Bench.withNumbers();
        TelescopeCourt court = bench.court;
        court.declare(bench.term("{u0 d0 u0 d0 d0}"));
        int open = bench.term("(c1 v0)");
        int openType = bench.term("v1");
        int functions = bench.term("{v1 d0}");
        int next = bench.term("v0");
        Runnable asked = () -> {
            fails(court, "an open number", FAILS, open);
            Due.thrown("typeOf", FAILS, () -> court.typeOf(open));
            Due.thrown("level", FAILS, () -> court.level(openType));
            Due.thrown("declare", FAILS, () -> court.declare(functions));
            Due.is("isOf", court.isOf(open, bench.ofNumbers), false);
            Due.is("soundness", court.isSound(), true);
        };
        asked.run();
        for (int i = 0; i < 3; i++) {
            Due.is("filled", court.fill(0, next), 0);
            fails(court, "an open number, behind a filling", FAILS, open);
            court.reopen(0);
            court.fill(0, next);
            Due.thrown("typeOf, behind a filling", FAILS, () -> court.typeOf(open));
            court.isSound();
            Due.thrown("level, behind all right sides", FAILS, () -> court.level(openType));
            court.isSound();
            Due.thrown("declare, behind all right sides", FAILS, () -> court.declare(functions));
            court.isSound();
            Due.is("isOf, behind all right sides", court.isOf(open, bench.ofNumbers), false);
            court.isSound();
            asked.run();
            court.reopen(0);
        }
    }

    /** Sixteen constructors of one data type: each value comes to the clause of its own, by both ways. */
    private static void manyClauses() {
        Bench bench = new Bench();
        TelescopeCourt court = bench.court;
        court.addData();
        court.addConstructor(0, 1, 0, 0, 0);
        int first = court.constructorNode(0);
        for (int i = 1; i < 16; i++) {
            court.addConstructor(0, i < 14 ? 0 : i - 12, 0, 0, 0);
        }
        court.declare(bench.term("{d0 d0}"));
        Due.is("split", court.split(0, 0), 16);
        for (int i = 0; i < 16; i++) {
            String right = i == 0 ? "v0" : i > 13 ? "v" + (i - 13) : "c" + (i % 13 + 1);
            court.fill(1 + i, bench.term(right));
        }
        Due.is("accepted", court.accept(0), 0);
        for (int i = 1; i < 14; i++) {
            int constructor = bench.term("c" + i);
            comes(bench, "constructor " + i, bench.term("(f0 c" + i + ")"), 201 + i % 13 + 1, 1, 1);
            comes(bench, "below the first, " + i, court.apply(court.functionNode(0), court.apply(first, constructor)),
                    201 + i, 1, 1);
        }
        comes(bench, "the last but one", bench.term("(f0 (c14 c3 c4))"), 204, 1, 1);
        comes(bench, "the last one", bench.term("(f0 (c15 c3 c4 c5))"), 204, 1, 1);
        Due.is("sixteen goals that are not alike", court.isSound(), true);
    }

    /** "more than 40 steps": steps of functions and of lambdas, where the last one is of either kind. */
    private static void theLastStep() {
        Bench bench = Bench.withNumbers();
        TelescopeCourt court = bench.court;
        bench.declareCopy(0);
        bench.declareOverNumbers(1);
        court.fill(3, bench.term("(c1 (c1 v0))"));
        court.accept(1);
        int eight = court.number(bench.number(8));
        // A copy of n takes n + 1 steps.
        int thirtyNine = bench.term("(f0 (f0 (f0 (f0 (f1 (f1 (f1 (c1 (c1 c0)))))))))");
        int identity = bench.term("[d0 v0]");
        comes(bench, "4 * 9 + 3", thirtyNine, eight, 9, 39);
        comes(bench, "the fortieth by a lambda", court.apply(identity, thirtyNine), eight, 9, 40);
        fails(court, "41 by a lambda", FAILS, court.apply(identity, court.apply(identity, thirtyNine)));
        comes(bench, "4 * 9 + 4", bench.term("(f0 (f0 (f0 (f0 (f1 (f1 (f1 (f1 c0))))))))"), eight, 9, 40);
        fails(court, "4 * 10 + 1", FAILS, bench.term("(f0 (f0 (f0 (f0 (f1 (c1 (c1 (c1 (c1 (c1 (c1 (c1 c0))))))))))))"));
        fails(court, "6 * 9", FAILS, bench.times(6, court.functionNode(0), bench.number(8)));
        comes(bench, "none", bench.number(14), court.number(bench.number(14)), 15, 0);
        comes(bench, "one", court.apply(identity, bench.number(0)), 201, 1, 1);
        Due.is("all that were taken", court.allSteps(), 39L + 40 + 40 + 1);
    }

    /** Trees of a tip, of one tree and of two; f0 makes two of one, f1 and f2 put away both. */
    private static Bench withTrees() {
        Bench bench = new Bench();
        TelescopeCourt court = bench.court;
        court.addData();
        court.addConstructor(0, 0, 0, 0, 0);
        court.addConstructor(0, 1, 0, 0, 0);
        court.addConstructor(0, 2, 0, 0, 0);
        court.declare(bench.term("{d0 d0}"));
        court.fill(0, bench.term("(c2 v0 v0)"));
        court.accept(0);
        court.declare(bench.term("{d0 d0 d0}"));
        court.fill(1, bench.term("c0"));
        court.accept(1);
        return bench;
    }

    // Values of 197 and of 199, after five steps.
    private static final String OF_197 = "(f0 (f0 (c1 (f0 (f0 (c1 (c1 (f0 c0))))))))";
    private static final String OF_199 = "(c1 " + OF_197 + ")";

    /** "a constructor or a function that is applied to one more value", with more to come; sizes are odd here. */
    private static void theLargestPart() {
        Bench bench = withTrees();
        TelescopeCourt court = bench.court;
        Due.is("197", court.valueSize(bench.term(OF_197)), 99);
        Due.is("199", court.valueSize(bench.term(OF_199)), 100);
        for (String head : new String[] {"f1", "c2"}) {
            int fits = bench.term("([{d0 d0} c0] (" + head + " " + OF_197 + "))");
            comes(bench, head + ", 199", fits, 201, 1, 6);
            fails(court, head + ", 201", FAILS, bench.term("([{d0 d0} c0] (" + head + " " + OF_199 + "))"));
            fails(court, head + ", 201 with the second", FAILS, bench.term("(" + head + " " + OF_197 + " c0)"));
            fails(court, head + ", 203 with the second", FAILS, bench.term("(" + head + " c0 " + OF_199 + ")"));
        }
        fails(court, "a constructor with all, 201", FAILS, bench.term("(c1 " + OF_199 + ")"));
        fails(court, "a function with all, 201", FAILS, bench.term("(f0 " + OF_199 + ")"));
        fails(court, "a right side of 397", FAILS, bench.term("(f0 " + OF_197 + ")"));
        String of97 = "(f0 (c1 (f0 (f0 (c1 (c1 (f0 c0)))))))";
        comes(bench, "a body of 199", bench.term("([d0 (f1 v0 (c1 v0))] " + of97 + ")"), 201, 1, 6);
        fails(court, "a body of 201", FAILS, bench.term("([d0 (f1 (c1 v0) (c1 v0))] " + of97 + ")"));
        fails(court, "a body of 201, put away", FAILS, bench.term("([d0 ([d0 c0] (c2 v0 v0))] " + of97 + ")"));
        comes(bench, "a value as it is", bench.term("([d0 c0] " + OF_199 + ")"), 201, 1, 6);
    }

    /** A court with one function, of a data type with one constructor that takes nothing and one that takes one. */
    private static void sharesAndMeans() {
        Bench bench = Bench.withNumbers();
        TelescopeCourt court = bench.court;
        int empty = court.addData();
        Due.thrown("no goal, share", NONE, court::filledShare);
        Due.thrown("no goal, mean", NONE, court::meanSize);
        court.declare(court.functions(court.dataNode(empty), bench.ofNumbers));
        Due.is("one open goal, share", court.filledShare(), 0f);
        Due.thrown("one open goal, mean", NONE, court::meanSize);
        court.split(0, 0);
        Due.thrown("one split goal, share", NONE, court::filledShare);
        Due.thrown("one split goal, mean", NONE, court::meanSize);
        bench.declareOverNumbers(1);
        court.fill(1, bench.number(14));
        Due.is("one filled goal, share", court.filledShare(), 1f);
        Due.is("one filled goal, mean", court.meanSize(), 29.0);
        court.reopen(1);
        Due.is("none again, share", court.filledShare(), 0f);
        Due.thrown("none again, mean", NONE, court::meanSize);
        court.auto(1);
        Due.is("the smallest mean", court.meanSize(), 1.0);
        Bench first = Bench.withNumbers();
        first.declareOverNumbers(1);
        first.court.fill(0, first.number(14));
        Due.is("of the first goal, share", first.court.filledShare(), 1f);
        Due.is("of the first goal, mean", first.court.meanSize(), 29.0);
    }

    /** Forty goals, of which nineteen are split: of the others none is filled, then one, up to all of them. */
    private static void sharesOfAll() {
        Bench bench = Bench.withNumbers();
        TelescopeCourt court = bench.court;
        bench.declareOverNumbers(1);
        bench.declareOverNumbers(1);
        court.split(0, 0);
        for (int i = 0; i < 18; i++) {
            court.split(3 + 2 * i, 0);
        }
        int one = bench.number(0);
        int three = bench.number(1);
        int filled = 0;
        int sum = 0;
        for (int goal = 0; goal < 40; goal++) {
            if (court.goalState(goal) == 'o') {
                Due.is("the share of " + filled, court.filledShare(), (float) filled / 21f);
                int right = filled % 3 == 0 ? three : one;
                court.fill(goal, right);
                filled++;
                sum += right == three ? 3 : 1;
                Due.is("the mean of " + filled, court.meanSize(), (double) sum / (double) filled);
            }
        }
        Due.is("there were so many", filled, 21);
        Due.is("all of them", court.filledShare(), 1f);
        Due.is("none is open", court.openGoals(0) + court.openGoals(1), 0);
        Due.is("accepted", court.accept(0), 0);
        Due.is("sound", court.isSound(), true);
    }

    public static void main(String[] args) {
        nodes();
        typesOfRuns();
        noDataTypes();
        callsOfRuns();
        closedTermsBehindContexts();
        manyClauses();
        theLastStep();
        theLargestPart();
        sharesAndMeans();
        sharesOfAll();
        Due.end();
    }
}
